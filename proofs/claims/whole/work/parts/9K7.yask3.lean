/-! file in the reference; count; feed -/
section
variable {c : Nat} {S : yS} {s : aT}
theorem M_file (hw : yWf S) (h : yMI S s) (d : Nat) (k x : Int32) : yMr s (fMo_file (d + 1) k x s) (y_file k x S) := by
  have h40 := hw.2.2.2.2.1.1
  have hf := h.2.2.2.2.2.1
  have hy : ∀ v, yMI S (pI s 67 0 v) := fun v => yMI_0 h
  have g15 : ∀ (w : Bool) r, fMo_file_23 (d + 1) k x (uB (decide (yNo x 4))) (uB w) s = some r → fMo_file_15 (d + 1) k x (uB w) s = some r := by
    intro w r hr
    refine eMo_file_15 d _ _ _ _ _ ?_
    rw [Mo_wn d (k := 4) (b := 4) rfl, cG_I]
    by_cases hx : yNo x 4
    · rw [show decide (yNo x 4) = true from decide_eq_true hx] at hr
      rw [show decide (¬ yNo x 4) = false from decide_eq_false (fun e => e hx), if_neg (by decide)]
      exact hr
    · rw [show decide (yNo x 4) = false from decide_eq_false hx] at hr
      rw [show decide (¬ yNo x 4) = true from decide_eq_true hx, if_pos (by decide)]
      exact hr
  by_cases hbad : S.dn = false ∧ (k < 0 ∨ ¬ k < nI S.fs.length)
  · have er : y_file k x S = (1, 0, S) := if_pos hbad
    rw [er]
    have hd : decide (¬ k < 0 ∧ ¬ nI S.fs.length - 1 < k) = false := decide_eq_false (fun e => by
      rcases hbad.2 with hb | hb
      · exact e.1 hb
      · obtain ⟨e1, e2⟩ := nI_tn e.1
        have h3 := e.2
        rw [e1, nI_ltE (by omega) (by omega)] at hb
        by_cases h0 : S.fs.length = 0
        · rw [h0, show nI 0 - 1 = (-1 : Int32) from rfl, e1] at h3
          exact h3 (by
            rw [Int32.lt_iff_toInt_lt, nI_ti (by omega), show (-1 : Int32).toInt = -1 from rfl]
            omega)
        · rw [show (1 : Int32) = nI 1 from rfl, nI_sub (by omega), e1, nI_ltE (by omega) (by omega)] at h3
          omega)
    refine ⟨pI s 67 0 (nI 1), eMo_file d _ _ _ _ ?_, by rw [gI_pI, if_pos ⟨rfl, rfl⟩], hy _, xMo_0⟩
    rw [h.1.2, if_neg (by rw [hbad.1]; decide), hf.1, Mo_wi, cG_I, hd, if_neg (by decide)]
    refine g15 true _ (eMo_file_23 d _ _ _ _ _ _ ?_)
    have e0 := Mo_ref (s := s) d (a := true) (b := decide (yNo x 4))
    rw [if_pos (.inl rfl), if_pos rfl] at e0
    rw [e0, cG_I, if_neg (by decide)]
    rfl
  · have er : y_file k x S = if yNo x 4 then (2, 0, S) else if S.dn = true then (0, -33, S) else (0, yFd (S.fs.getD k.toInt.toNat yF0) x, S) := if_neg hbad
    rw [er]
    have go : ∀ r, fMo_file_15 (d + 1) k x (uB false) s = some r → fMo_file (d + 1) k x s = some r := fun r hr => by
      refine eMo_file d _ _ _ _ ?_
      rw [h.1.2]
      by_cases hd : S.dn = true
      · rw [if_pos (by rw [hd]; decide)]
        exact eMo_file_14 d _ _ _ _ hr
      · have hd0 : S.dn = false := by simpa using hd
        have hk0 : ¬ k < 0 := fun e => hbad ⟨hd0, .inl e⟩
        have hk1 : k < nI S.fs.length := Classical.not_not.mp (fun e => hbad ⟨hd0, .inr e⟩)
        obtain ⟨e1, e2⟩ := nI_tn hk0
        have hk2 : k.toInt.toNat < S.fs.length := by rw [e1, nI_ltE (by omega) (by omega)] at hk1; exact hk1
        have hd2 : decide (¬ k < 0 ∧ ¬ nI S.fs.length - 1 < k) = true := decide_eq_true ⟨hk0, fun e => by
          rw [show (1 : Int32) = nI 1 from rfl, nI_sub (by omega), e1, nI_ltE (by omega) (by omega)] at e
          omega⟩
        rw [if_neg (by rw [hd0]; decide), hf.1, Mo_wi, cG_I, hd2, if_pos (by decide)]
        exact eMo_file_14 d _ _ _ _ hr
    by_cases hx : yNo x 4
    · rw [if_pos hx]
      refine ⟨pI s 67 0 (nI 2), go _ (g15 false _ (eMo_file_23 d _ _ _ _ _ _ ?_)), by rw [gI_pI, if_pos ⟨rfl, rfl⟩], hy _, xMo_0⟩
      have e0 : fMo_refused d (uB false) (uB true) s = rI 1 (pI s 67 0 (nI 2)) := Mo_ref d (a := false) (b := true)
      rw [show decide (yNo x 4) = true from decide_eq_true hx, e0, cG_I, if_neg (by decide)]
      rfl
    · rw [if_neg hx]
      have e0 : fMo_refused d (uB false) (uB (decide (yNo x 4))) s = rI 0 (pI s 67 0 (nI 0)) := by
        rw [show decide (yNo x 4) = false from decide_eq_false hx]
        exact Mo_ref d (a := false) (b := false)
      by_cases hd : S.dn = true
      · rw [if_pos hd]
        refine ⟨pI s 67 0 (nI 0), go _ (g15 false _ (eMo_file_23 d _ _ _ _ _ _ ?_)), by rw [gI_pI, if_pos ⟨rfl, rfl⟩], hy _, xMo_0⟩
        rw [e0, cG_I, if_pos rfl, (hy _).1.2, if_neg (by rw [hd]; decide)]
        rfl
      · rw [if_neg hd]
        have hd0 : S.dn = false := by simpa using hd
        have hk0 : ¬ k < 0 := fun e => hbad ⟨hd0, .inl e⟩
        have hk1 : k < nI S.fs.length := Classical.not_not.mp (fun e => hbad ⟨hd0, .inr e⟩)
        obtain ⟨e1, e2⟩ := nI_tn hk0
        have hk2 : k.toInt.toNat < S.fs.length := by rw [e1, nI_ltE (by omega) (by omega)] at hk1; exact hk1
        obtain ⟨a1, a2, a3, a4, a5, a6⟩ := (hy (nI 0)).2.2.2.2.2.1.2 _ hk2
        refine ⟨pI s 67 0 (nI 0), go _ (g15 false _ (eMo_file_23 d _ _ _ _ _ _ ?_)), by rw [gI_pI, if_pos ⟨rfl, rfl⟩], hy _, xMo_0⟩
        rw [e0, cG_I, if_pos rfl, (hy _).1.2, if_pos (by rw [hd0]; rfl)]
        unfold yFd
        rw [e1]
        by_cases x0 : x = 0
        · rw [if_neg (fun e => e x0), if_pos x0, ldI_n (by omega) (by omega), ← e1, a1]; rfl
        · rw [if_pos x0, if_neg x0]
          by_cases x1 : x = 1
          · rw [if_neg (fun e => e x1), if_pos x1, ldI_n (by omega) (by omega), ← e1, a2]; rfl
          · rw [if_pos x1, if_neg x1]
            by_cases x2 : x = 2
            · rw [if_neg (fun e => e x2), if_pos x2, ldI_n (by omega) (by omega), ← e1, a3]; rfl
            · rw [if_pos x2, if_neg x2]
              by_cases x3 : x = 3
              · rw [if_neg (fun e => e x3), if_pos x3, ldI_n (by omega) (by omega), ← e1, a4]; rfl
              · rw [if_pos x3, if_neg x3, ldI_n (by omega) (by omega), ← e1, a5]; rfl
/- count -/
def y_count (x w : Int32) (S : yS) : Nat × Int32 × yS := if yNo x 3 then (1, 0, S) else if yNo w 2 then (2, 0, S) else if S.dn = true then (0, -33, S) else (0, if w = 0 then nI (yVc S.fs x.toInt.toNat S.fs.length) else if w = 1 then nI (yFc S.fs x.toInt.toNat S.fs.length) else nI (yRs S.fs x.toInt.toNat S.fs.length), S)
theorem nI_ti2 {n : Nat} (h : n < 2147483648) : (nI n).toInt.toNat = n := by rw [nI_ti h]; omega
theorem L_count (hw : yWf S) (h : yLI c S s) (d : Nat) {E : Nat → Nat} (hE : E 1 = 2 ∧ E 2 = 1) (x w : Int32) : yLr c s E (fLk_count (d + 3) x w s) (y_count x w S) := by
  have h40 := hw.2.2.2.2.1.1
  by_cases hx : yNo x 3
  · have er : y_count x w S = (1, 0, S) := if_pos hx
    rw [er]
    refine yLr_k (by omega) (eLk_count (d + 2) _ _ _ _ ?_)
    rw [Lk_ns, if_pos hx, hE.1]
    rfl
  · have er : y_count x w S = if yNo w 2 then (2, 0, S) else if S.dn = true then (0, -33, S) else (0, if w = 0 then nI (yVc S.fs x.toInt.toNat S.fs.length) else if w = 1 then nI (yFc S.fs x.toInt.toNat S.fs.length) else nI (yRs S.fs x.toInt.toNat S.fs.length), S) := if_neg hx
    rw [er]
    obtain ⟨n, n1, rfl⟩ := yNo_n (by omega) hx
    rw [nI_ti2 (by omega)]
    by_cases hwx : yNo w 2
    · rw [if_pos hwx]
      refine yLr_k (by omega) (eLk_count (d + 2) _ _ _ _ ?_)
      rw [Lk_ns, if_neg hx, cG_V, Lk_nw, show (2 : Int32) = nI 2 from rfl, if_pos hwx, hE.2]
      rfl
    · rw [if_neg hwx]
      have go : ∀ r, (if gI s 0 16 = 0 then if w = 0 then ldI 4 s 34 (nI n) (fun v4 => rI v4 s) else if w = 1 then cG (fFl_filesOf (d + 2) (nI n) s) (kI fun v7 s6 => rI v7 s6) else cG (fFl_rowsOf (d + 2) (nI n) s) (kI fun v9 s8 => rI v9 s8) else rI (-33) s) = some r → fLk_count (d + 3) (nI n) w s = some r := by
        intro r hr
        refine eLk_count (d + 2) _ _ _ _ ?_
        rw [Lk_ns, if_neg hx, cG_V, Lk_nw, show (2 : Int32) = nI 2 from rfl, if_neg hwx, cG_V]
        exact hr
      rw [h.1.2] at go
      by_cases hd : S.dn = true
      · rw [if_pos hd]
        rw [if_neg (by rw [hd]; decide)] at go
        exact yLr_0 ⟨s, go _ rfl, yLI_c (by omega) h, xLk_r⟩
      · rw [if_neg hd]
        have hd0 : S.dn = false := by simpa using hd
        rw [if_pos (by rw [hd0]; rfl)] at go
        have hf := h.2.2.2.2.1
        have hsc := h.2.2.2.2.2.1
        rw [yUp_f hd0] at hf hsc
        refine yLr_0 ⟨s, go _ ?_, yLI_c (by omega) h, xLk_r⟩
        by_cases w0 : w = 0
        · rw [if_pos w0, if_pos w0, ldI_n (by omega) (by omega), hsc.2.2.1 n (by omega)]; rfl
        · rw [if_neg w0, if_neg w0]
          by_cases w1 : w = 1
          · rw [if_pos w1, if_pos w1, Fl_fc hf hw.2.2.2.2.1 (d + 1) (by omega), cG_I]; rfl
          · rw [if_neg w1, if_neg w1, Fl_ro hf hw.2.2.2.2.1 d (by omega), cG_I]; rfl
theorem M_count (hw : yWf S) (h : yMI S s) (d : Nat) (x w : Int32) : yMr s (fMo_count (d + 2) x w s) (y_count x w S) := by
  have h40 := hw.2.2.2.2.1.1
  have hy : ∀ v, yMI S (pI s 67 0 v) := fun v => yMI_0 h
  have go : ∀ r, fMo_count_15 (d + 2) x w (uB (decide (yNo w 2))) (uB (decide (yNo x 3))) s = some r → fMo_count (d + 2) x w s = some r := by
    intro r hr
    refine eMo_count (d + 1) _ _ _ _ ?_
    have g7 : ∀ b : Bool, fMo_count_15 (d + 2) x w (uB (decide (yNo w 2))) (uB b) s = some r → fMo_count_7 (d + 2) x w (uB b) s = some r := by
      intro b hr
      refine eMo_count_7 (d + 1) _ _ _ _ _ ?_
      rw [Mo_wn (d + 1) (k := 2) (b := 2) rfl, cG_I]
      by_cases hx : yNo w 2
      · rw [show decide (yNo w 2) = true from decide_eq_true hx] at hr
        rw [show decide (¬ yNo w 2) = false from decide_eq_false (fun e => e hx), if_neg (by decide)]
        exact hr
      · rw [show decide (yNo w 2) = false from decide_eq_false hx] at hr
        rw [show decide (¬ yNo w 2) = true from decide_eq_true hx, if_pos (by decide)]
        exact hr
    rw [Mo_isS, cG_I]
    by_cases hx : yNo x 3
    · rw [show decide (yNo x 3) = true from decide_eq_true hx] at hr
      rw [show decide (¬ yNo x 3) = false from decide_eq_false (fun e => e hx), if_neg (by decide)]
      exact g7 true hr
    · rw [show decide (yNo x 3) = false from decide_eq_false hx] at hr
      rw [show decide (¬ yNo x 3) = true from decide_eq_true hx, if_pos (by decide)]
      exact g7 false hr
  by_cases hx : yNo x 3
  · have er : y_count x w S = (1, 0, S) := if_pos hx
    rw [er]
    refine ⟨pI s 67 0 (nI 1), go _ (eMo_count_15 (d + 1) _ _ _ _ _ _ ?_), by rw [gI_pI, if_pos ⟨rfl, rfl⟩], hy _, xMo_0⟩
    have e0 := Mo_ref (s := s) (d + 1) (a := true) (b := decide (yNo w 2))
    rw [if_pos (.inl rfl), if_pos rfl] at e0
    rw [show decide (yNo x 3) = true from decide_eq_true hx, e0, cG_I, if_neg (by decide)]
    rfl
  · have er : y_count x w S = if yNo w 2 then (2, 0, S) else if S.dn = true then (0, -33, S) else (0, if w = 0 then nI (yVc S.fs x.toInt.toNat S.fs.length) else if w = 1 then nI (yFc S.fs x.toInt.toNat S.fs.length) else nI (yRs S.fs x.toInt.toNat S.fs.length), S) := if_neg hx
    rw [er]
    rw [show decide (yNo x 3) = false from decide_eq_false hx] at go
    obtain ⟨n, n1, rfl⟩ := yNo_n (by omega) hx
    rw [nI_ti2 (by omega)]
    by_cases hwx : yNo w 2
    · rw [if_pos hwx]
      refine ⟨pI s 67 0 (nI 2), go _ (eMo_count_15 (d + 1) _ _ _ _ _ _ ?_), by rw [gI_pI, if_pos ⟨rfl, rfl⟩], hy _, xMo_0⟩
      have e0 : fMo_refused (d + 1) (uB false) (uB true) s = rI 1 (pI s 67 0 (nI 2)) := Mo_ref (d + 1) (a := false) (b := true)
      rw [show decide (yNo w 2) = true from decide_eq_true hwx, e0, cG_I, if_neg (by decide)]
      rfl
    · rw [if_neg hwx]
      have e0 : fMo_refused (d + 1) (uB false) (uB (decide (yNo w 2))) s = rI 0 (pI s 67 0 (nI 0)) := by
        rw [show decide (yNo w 2) = false from decide_eq_false hwx]
        exact Mo_ref (d + 1) (a := false) (b := false)
      by_cases hd : S.dn = true
      · rw [if_pos hd]
        refine ⟨pI s 67 0 (nI 0), go _ (eMo_count_15 (d + 1) _ _ _ _ _ _ ?_), by rw [gI_pI, if_pos ⟨rfl, rfl⟩], hy _, xMo_0⟩
        rw [e0, cG_I, if_pos rfl, (hy _).1.2, if_neg (by rw [hd]; decide)]
        rfl
      · rw [if_neg hd]
        have hd0 : S.dn = false := by simpa using hd
        have hf := (hy (nI 0)).2.2.2.2.2.1
        have hs := hw.2.2.2.2.1
        refine ⟨pI s 67 0 (nI 0), go _ (eMo_count_15 (d + 1) _ _ _ _ _ _ ?_), by rw [gI_pI, if_pos ⟨rfl, rfl⟩], hy _, xMo_0⟩
        rw [e0, cG_I, if_pos rfl, (hy _).1.2, if_pos (by rw [hd0]; rfl)]
        generalize pI s 67 0 (nI 0) = t at *
        have loop : ∀ k j, j + k = S.fs.length → fMo_count_28 (d + 2) (nI n) w (nI (yFc S.fs n j)) (nI j) t = rI (if w = 0 then nI (yVc S.fs n S.fs.length) else if w = 1 then nI (yFc S.fs n S.fs.length) else nI (yRs S.fs n S.fs.length)) t := by
          intro k
          induction k with
          | zero =>
            intro j hj
            have ej : j = S.fs.length := by omega
            subst ej
            refine eMo_count_28 (d + 1) _ _ _ _ _ _ ?_
            rw [hf.1, if_pos (show nI S.fs.length ≤ nI S.fs.length by rw [nI_leE (by omega) (by omega)]; omega)]
            by_cases w0 : w = 0
            · rw [if_neg (fun e => e w0), if_pos w0, Mo_vsn hf hs _ (by omega), cG_I]; rfl
            · rw [if_pos w0, if_neg w0]
              by_cases w1 : w = 1
              · rw [if_neg (fun e => e w1), if_pos w1]; rfl
              · rw [if_pos w1, if_neg w1, Mo_rs hf hs _ (by omega), cG_I]; rfl
          | succ k ih =>
            intro j hj
            obtain ⟨a1, a2, a3, a4, a5, a6⟩ := hf.2 j (by omega)
            obtain ⟨b1, b2, b3, b4, b5⟩ := hs.2 j (by omega)
            have g0 : ¬ yIs (S.fs.getD j yF0) n → fMo_count_47 (d + 2) (nI n) w (nI (yFc S.fs n j)) (nI j) t = rI (if w = 0 then nI (yVc S.fs n S.fs.length) else if w = 1 then nI (yFc S.fs n S.fs.length) else nI (yRs S.fs n S.fs.length)) t := fun hn => by
              have e : yFc S.fs n (j + 1) = yFc S.fs n j := by show yFc S.fs n j + (if _ then _ else _) = _; rw [if_neg hn]; rfl
              refine eMo_count_47 (d + 1) _ _ _ _ _ _ (eMo_count_48 (d + 1) _ _ _ _ _ _ ?_)
              rw [nI_add1, ← e]
              exact ih (j + 1) (by omega)
            refine eMo_count_28 (d + 1) _ _ _ _ _ _ ?_
            rw [hf.1, if_neg (show ¬ nI S.fs.length ≤ nI j by rw [nI_leE (by omega) (by omega)]; omega), ldI_n (by omega) (by omega), a1]
            have en : (nI (S.fs.getD j yF0).1 = nI n) = ((S.fs.getD j yF0).1 = n) := nI_eqE (by omega) (by omega)
            by_cases h1 : (S.fs.getD j yF0).1 = n
            · rw [if_neg (fun e => e (by rw [en]; exact h1)), ldI_n (by omega) (by omega), a5]
              by_cases h2 : (S.fs.getD j yF0).2.2.2.2.1 = 0
              · rw [if_pos (by rw [h2]; decide)]
                exact g0 (fun e => e.2 h2)
              · have hi : yIs (S.fs.getD j yF0) n := ⟨h1, h2⟩
                rw [zI_pos (by omega), if_neg (nI_n0 (by omega))]
                have e : yFc S.fs n (j + 1) = yFc S.fs n j + 1 := by show yFc S.fs n j + (if _ then _ else _) = _; rw [if_pos hi]
                refine eMo_count_48 (d + 1) _ _ _ _ _ _ ?_
                rw [nI_add1, nI_add1, ← e]
                exact ih (j + 1) (by omega)
            · rw [if_pos (by rw [en]; exact h1)]
              exact g0 (fun e => h1 e.1)
        exact loop S.fs.length 0 (by omega)
end
