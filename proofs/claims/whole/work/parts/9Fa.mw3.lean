/-! the reference's Text: the plain form of a whole text -/
section
variable {c : Nat} {q : kP} {t : aT} {T : Nat → Nat → Nat} {N : Nat → Int} {m l n D F : Nat} {L W : List Nat} {h : Nat}
theorem Mw_nw (hP : mPc c q t T N m l n) (hrec : mPw c q t T D F) (hF : 7 ≤ F) (d : Nat) {x h' : Nat} (h6 : 6 ≤ x) (hx : x < q.1 1) (h9 : 9 ≤ q.2.1 0 x) (hh : h' ≤ q.1 1) (htt : kTt q (D + 1) x h') (hl : L.length + (kPlB T q (kPl T q D) x).1.length ≤ 4200) : fMt_writeNamed (F + d + 1) c (nI x) (mP c q L x t) = rV (mP c q (L ++ (kPlB T q (kPl T q D) x).1) h' t) := by
  have hc := hP.1
  have hn1 := hP.2.2.2.2.1.1
  have hnd := htt.1
  have hK : q.2.1 0 x ≤ 11 := (hP.2.2.2.2.1.2.2.1 x h6 hx).1.2
  have hr9 := fun L h => (mPc_r hP hx L h).1
  have hr12 := fun L h => (mPc_r hP hx L h).2.2 h6
  have hpre : ∀ r, L.length + (kPw 26).length + (kQt (kLe T (q.2.1 1 x - 1))).length ≤ 4200 → (if ¬ nI (q.2.1 0 x) = 9 then ldI 140 (mP c q (L ++ kPw 26 ++ kQt (kLe T (q.2.1 1 x - 1))) (x + 1) t) (c + 9) (nI x) (fun v7 => if ¬ v7 = 10 then fMt_writeNamed_71 (F + d + 1) c (nI x) 1076 (mP c q (L ++ kPw 26 ++ kQt (kLe T (q.2.1 1 x - 1))) (x + 1) t) else fMt_writeNamed_71 (F + d + 1) c (nI x) 1075 (mP c q (L ++ kPw 26 ++ kQt (kLe T (q.2.1 1 x - 1))) (x + 1) t)) else cG (fMt_put (F + d) c 1074 (mP c q (L ++ kPw 26 ++ kQt (kLe T (q.2.1 1 x - 1))) (x + 1) t)) (kV fun s8 => ldI 140 s8 (c + 11) (nI x) (fun v9 => if v9 ≤ 9 then fMt_writeNamed_49 (F + d + 1) c (nI x) s8 else ldI 140 s8 (c + 11) (nI x) (fun v10 => cG (fMt_figure (F + d) c (v10 / 10) s8) (kV fun s11 => fMt_writeNamed_49 (F + d + 1) c (nI x) s11))))) = some r → fMt_writeNamed (F + d + 1) c (nI x) (mP c q L x t) = some r := by
    intro r hl hr
    obtain ⟨p1, p2⟩ := Mw_nm (L := L ++ kPw 26) (h := x + 1) hP (k := F + d) (by omega) h6 hx h9 (by simp only [List.length_append]; omega)
    have fl : gI (mP c q L x t) (c + 21) x = 0 := by rw [mP_fl hx h6 h9, if_neg (Nat.lt_irrefl _)]
    refine eMt_writeNamed (F + d) c _ _ hc _ ?_
    rw [ldI_n (by omega) (by omega), fl, if_pos rfl, stI_n (by omega) (by omega), show vp_nar .boolean 1 = 1 from by decide, mP_set hx h6 h9, Mw_put (by omega) hc (sWd_R (1073, kPw 26) (by decide)) (by show L.length + (kPw 26).length ≤ _; omega), cG_V, ldI_n (by omega) (by omega), (mPc_r hP hx _ _).2.1, p1, p2, cG_V, ldI_n (by omega) (by omega), hr9]
    exact hr
  have hcase : q.2.1 0 x = 9 ∨ q.2.1 0 x = 10 ∨ q.2.1 0 x = 11 := by omega
  rcases hcase with hk | hk | hk
  · have eB : kPlB T q (kPl T q D) x = (kPln T q x (kPw 28 ++ kDg (q.2.1 8 x - 1)), x + 1) := by
      unfold kPlB
      rw [if_neg (by omega), if_neg (by omega), if_pos hk]
    have eh : h' = x + 1 := by
      rcases kTt_b htt with ⟨_, e⟩ | ⟨e, _⟩
      · exact e
      · omega
    rw [eB] at hl ⊢
    rw [eh]
    unfold kPln at hl ⊢
    rw [hk] at hl ⊢
    simp only [List.length_append, List.length_cons, List.length_nil] at hl
    have h8 := hnd.1 hk
    have h865 := (hP.2.2.2.2.1.2.2.1 x h6 hx).2.2.2.2.2.2.1
    have e11 : ∀ L h, gI (mP c q L h t) (c + 11) x = nI (q.2.1 8 x - 1) := fun L h => by
      rw [mP_o (by omega), (hP.2.1.2.2.1 x h6 hx).1, if_pos hk]
    have hsz : q.2.1 8 x - 1 ≤ 64 := by omega
    generalize q.2.1 8 x - 1 = sz at *
    have e1 : ∀ n, n ≤ 64 → nI n / 10 = nI (n / 10) := by decide +kernel
    have e2 : ∀ n, n ≤ 64 → nI n - nI n / 10 * 10 = nI (n % 10) := by decide +kernel
    have h49 : ∀ L : List Nat, L.length + 2 ≤ 4200 → fMt_writeNamed_49 (F + d + 1) c (nI x) (mP c q L (x + 1) t) = rV (mP c q (L ++ [48 + sz % 10] ++ [125]) (x + 1) t) := by
      intro L hl
      refine eMt_writeNamed_49 (F + d) c _ _ hc _ ?_
      rw [ldI_n (by omega) (by omega), e11, e2 _ hsz, Mw_fig (F + d) hc (by omega) (by omega), cG_V, Mw_put (by omega) hc (sWd_R (1067, [125]) (by decide)) (by simp only [List.length_append, List.length_cons, List.length_nil]; omega), cG_V]
      rfl
    have hput := Mw_put (c := c) (q := q) (t := t) (h := x + 1) (L := L ++ kPw 26 ++ kQt (kLe T (q.2.1 1 x - 1))) (n := F + d) (by omega) hc (sWd_R (1074, kPw 27 ++ (kQt (kWs 9) ++ kPw 28)) (by decide)) (by simp only [List.length_append]; omega)
    refine hpre _ (by omega) ?_
    rw [hk, if_neg (fun e => e rfl), hput, cG_V, ldI_n (by omega) (by omega), e11, show (9 : Int32) = nI 9 from rfl]
    simp (disch := omega) only [nI_leE]
    unfold kDg at hl ⊢
    by_cases h10 : sz ≤ 9
    · rw [if_neg (show ¬ 10 ≤ sz by omega)] at hl ⊢
      simp only [List.length_cons, List.length_nil] at hl
      rw [if_pos h10, h49 _ (by simp only [List.length_append]; omega)]
      simp only [List.append_assoc]
      rfl
    · rw [if_pos (show 10 ≤ sz by omega)] at hl ⊢
      simp only [List.length_cons, List.length_nil] at hl
      rw [if_neg h10, ldI_n (by omega) (by omega), e11, e1 _ hsz, Mw_fig (F + d) hc (by omega) (by simp only [List.length_append]; omega), cG_V, h49 _ (by simp only [List.length_append, List.length_cons, List.length_nil]; omega)]
      simp only [List.append_assoc]
      rfl
  · have eB : kPlB T q (kPl T q D) x = (kPln T q x (kPw 29 ++ (kPlY T q x (q.2.1 4 x) 0 ++ [93])), x + 1) := by
      unfold kPlB
      rw [if_neg (by omega), if_neg (by omega), if_neg (by omega), if_pos hk]
    have eh : h' = x + 1 := by
      rcases kTt_b htt with ⟨_, e⟩ | ⟨e, _⟩
      · exact e
      · omega
    rw [eB] at hl ⊢
    rw [eh]
    unfold kPln at hl ⊢
    rw [hk] at hl ⊢
    simp only [List.length_append, List.length_cons, List.length_nil] at hl
    have hput := Mw_put (c := c) (q := q) (t := t) (h := x + 1) (L := L ++ kPw 26 ++ kQt (kLe T (q.2.1 1 x - 1))) (n := F + d) (by omega) hc (sWd_R (1075, kPw 27 ++ (kQt (kWs 10) ++ kPw 29)) (by decide)) (by simp only [List.length_append]; omega)
    have hsy := Mw_sy (h := x + 1) hP (F0 := F + d) (by omega) h6 hx hk (q.2.1 4 x) 0 (L ++ kPw 26 ++ kQt (kLe T (q.2.1 1 x - 1)) ++ (kPw 27 ++ (kQt (kWs 10) ++ kPw 29))) (by omega) (by simp only [List.length_append, List.length_cons, List.length_nil]; omega)
    refine hpre _ (by omega) ?_
    rw [hk, if_pos (by decide), ldI_n (by omega) (by omega), hr9, hk, if_neg (fun e => e rfl)]
    refine eMt_writeNamed_71 (F + d) c _ _ _ hc _ ?_
    rw [hput, cG_V, ldI_n (by omega) (by omega), hr12, hsy]
    simp only [List.append_assoc]
    rfl
  · have eB : kPlB T q (kPl T q D) x = (kPln T q x (kPw 30 ++ ((kPlF T q (kPl T q D) x (q.2.1 4 x) 0 (x + 1)).1 ++ [93])), (kPlF T q (kPl T q D) x (q.2.1 4 x) 0 (x + 1)).2) := by
      unfold kPlB
      rw [if_neg (by omega), if_neg (by omega), if_neg (by omega), if_neg (by omega)]
    rcases kTt_b htt with ⟨e, _⟩ | ⟨_, f, f0, f1, f2, f3⟩
    · omega
    rw [eB] at hl ⊢
    unfold kPln at hl ⊢
    rw [hk] at hl ⊢
    simp only [List.length_append, List.length_cons, List.length_nil] at hl
    have hput := Mw_put (c := c) (q := q) (t := t) (h := x + 1) (L := L ++ kPw 26 ++ kQt (kLe T (q.2.1 1 x - 1))) (n := F + d) (by omega) hc (sWd_R (1076, kPw 27 ++ (kQt (kWs 11) ++ kPw 30)) (by decide)) (by simp only [List.length_append]; omega)
    have hfi := Mw_fi hP hrec hF d h6 hx hk f1 hh f2 f3 (q.2.1 4 x) 0 (L ++ kPw 26 ++ kQt (kLe T (q.2.1 1 x - 1)) ++ (kPw 27 ++ (kQt (kWs 11) ++ kPw 30))) (by omega) (by rw [f0]; simp only [List.length_append, List.length_cons, List.length_nil]; omega)
    rw [f0] at hfi
    refine hpre _ (by omega) ?_
    rw [hk, if_pos (by decide), ldI_n (by omega) (by omega), hr9, hk, if_pos (by decide)]
    refine eMt_writeNamed_71 (F + d) c _ _ _ hc _ ?_
    rw [hput, cG_V, ldI_n (by omega) (by omega), hr12, hfi]
    simp only [List.append_assoc]
    rfl
theorem Mw_old (hP : mPc c q t T N m l n) {k : Nat} (hk : 8 ≤ k) {x : Nat} (hx : x < q.1 1) (hxh : x < h) (h9 : x < 6 ∨ 9 ≤ q.2.1 0 x) (hl : L.length + (kPl T q D x h).1.length ≤ 4200) : fMt_write (k + 1) c (nI x) (mP c q L h t) = rV (mP c q (L ++ (kPl T q D x h).1) h t) := by
  have hc := hP.1
  have hn1 := hP.2.2.2.2.1.1
  have hr9 := fun L => (mPc_r hP hx L h).1
  rw [kPl_old hxh] at hl ⊢
  refine eMt_write k c _ _ hc _ ?_
  rw [ldI_n (by omega) (by omega), hr9]
  by_cases h6 : x < 6
  · rw [if_pos h6] at hl ⊢
    have hk0 : q.2.1 0 x = x := (hP.2.2.2.2.1.2.1 x h6).1
    unfold kQt at hl ⊢
    simp only [List.length_append, List.length_cons, List.length_nil] at hl
    have h113 : ∀ w, sWd w (kWs x) → fMt_write_113 (k + 1) c w (mP c q (L ++ [34]) h t) = rV (mP c q (L ++ 34 :: (kWs x ++ [34])) h t) := by
      intro w hw
      refine eMt_write_113 k c _ _ hc _ ?_
      rw [Mw_put (by omega) hc hw (by simp only [List.length_append, List.length_cons, List.length_nil]; omega), cG_V, Mw_put (by omega) hc (sWd_R (1072, [34]) (by decide)) (by simp only [List.length_append, List.length_cons, List.length_nil]; omega), cG_V]
      simp only [List.append_assoc]
      rfl
    have hq := Mw_put (c := c) (q := q) (t := t) (h := h) (L := L) (n := k) (by omega) hc (sWd_R (1072, [34]) (by decide)) (by show L.length + 1 ≤ _; omega)
    have : x = 0 ∨ x = 1 ∨ x = 2 ∨ x = 3 ∨ x = 4 ∨ x = 5 := by omega
    rw [hk0]
    rcases this with rfl | rfl | rfl | rfl | rfl | rfl
    · rw [if_neg (by decide), if_neg (by decide), if_neg (by decide), if_neg (by decide), if_neg (by decide), if_neg (by decide), hq, cG_V]
      simp only [ldI_n (show 0 < 140 by omega) (show 140 ≤ 2147483648 by omega), hr9, hk0]
      rw [if_neg (by decide)]
      exact h113 1046 (sWd_ok (1046, 0) (by decide))
    · rw [if_neg (by decide), if_neg (by decide), if_neg (by decide), if_neg (by decide), if_neg (by decide), if_neg (by decide), hq, cG_V]
      simp only [ldI_n (show 1 < 140 by omega) (show 140 ≤ 2147483648 by omega), hr9, hk0]
      rw [if_pos (by decide), if_neg (by decide)]
      exact h113 1047 (sWd_ok (1047, 1) (by decide))
    · rw [if_neg (by decide), if_neg (by decide), if_neg (by decide), if_neg (by decide), if_neg (by decide), if_neg (by decide), hq, cG_V]
      simp only [ldI_n (show 2 < 140 by omega) (show 140 ≤ 2147483648 by omega), hr9, hk0]
      rw [if_pos (by decide), if_pos (by decide), if_neg (by decide)]
      exact h113 1048 (sWd_ok (1048, 2) (by decide))
    · rw [if_neg (by decide), if_neg (by decide), if_neg (by decide), if_neg (by decide), if_neg (by decide), if_neg (by decide), hq, cG_V]
      simp only [ldI_n (show 3 < 140 by omega) (show 140 ≤ 2147483648 by omega), hr9, hk0]
      rw [if_pos (by decide), if_pos (by decide), if_pos (by decide), if_neg (by decide)]
      exact h113 1049 (sWd_ok (1049, 3) (by decide))
    · rw [if_neg (by decide), if_neg (by decide), if_neg (by decide), if_neg (by decide), if_neg (by decide), if_neg (by decide), hq, cG_V]
      simp only [ldI_n (show 4 < 140 by omega) (show 140 ≤ 2147483648 by omega), hr9, hk0]
      rw [if_pos (by decide), if_pos (by decide), if_pos (by decide), if_pos (by decide), if_neg (by decide)]
      exact h113 1050 (sWd_ok (1050, 4) (by decide))
    · rw [if_neg (by decide), if_neg (by decide), if_neg (by decide), if_neg (by decide), if_neg (by decide), if_neg (by decide), hq, cG_V]
      simp only [ldI_n (show 5 < 140 by omega) (show 140 ≤ 2147483648 by omega), hr9, hk0]
      rw [if_pos (by decide), if_pos (by decide), if_pos (by decide), if_pos (by decide), if_pos (by decide)]
      exact h113 1051 (sWd_ok (1051, 5) (by decide))
  · rw [if_neg h6] at hl ⊢
    obtain ⟨k, rfl⟩ : ∃ k', k = k' + 1 := ⟨k - 1, by omega⟩
    obtain ⟨p1, p2⟩ := Mw_nm (L := L) (h := h) hP (k := k) (by omega) (show 6 ≤ x by omega) hx (by omega) hl
    have hnm : fMt_writeNamed (k + 1) c (nI x) (mP c q L h t) = rV (mP c q (L ++ kQt (kLe T (q.2.1 1 x - 1))) h t) := by
      refine eMt_writeNamed k c _ _ hc _ ?_
      have fl : gI (mP c q L h t) (c + 21) x = 1 := by rw [mP_fl hx (by omega) (by omega), if_pos hxh]
      rw [ldI_n (by omega) (by omega), fl, if_neg (by decide), ldI_n (by omega) (by omega), (mPc_r hP hx _ _).2.1, p1, p2, cG_V]
      rfl
    have hK : q.2.1 0 x ≤ 11 := (hP.2.2.2.2.1.2.2.1 x (by omega) hx).1.2
    have : q.2.1 0 x = 9 ∨ q.2.1 0 x = 10 ∨ q.2.1 0 x = 11 := by omega
    rcases this with e | e | e
    · rw [e, if_neg (by decide), if_neg (by decide), if_neg (by decide), if_pos (by decide), hnm, cG_V]; rfl
    · rw [e, if_neg (by decide), if_neg (by decide), if_neg (by decide), if_neg (by decide), if_pos (by decide), hnm, cG_V]; rfl
    · rw [e, if_neg (by decide), if_neg (by decide), if_neg (by decide), if_neg (by decide), if_neg (by decide), if_pos (by decide), hnm, cG_V]; rfl
/-- a schema's plain form, in the reference -/
theorem Mw_wr (hP : mPc c q t T N m l n) : ∀ D, mPw c q t T D (2 * D + 9) := by
  intro D
  induction D with
  | zero =>
    intro d x h h' L hoc h6 hh hl
    rcases hoc with ⟨g1, g2, g3⟩ | ⟨g1, g2⟩
    · subst g2
      rw [show 2 * 0 + 9 + d = d + 8 + 1 by omega]
      exact Mw_old hP (by omega) (by omega) g1 g3 hl
    · exact g2.elim
  | succ D ih =>
    intro d x h h' L hoc h6 hh hl
    rcases hoc with ⟨g1, g2, g3⟩ | ⟨g1, g2⟩
    · subst g2
      rw [show 2 * (D + 1) + 9 + d = (2 * D + 10 + d) + 1 by omega]
      exact Mw_old hP (by omega) (by omega) g1 g3 hl
    · subst g1
      have hc := hP.1
      have hn1 := hP.2.2.2.2.1.1
      have hlt := kTt_lt _ _ _ g2
      have hx : x < q.1 1 := by omega
      have hnd := g2.1
      have hK := (hP.2.2.2.2.1.2.2.1 x h6 hx).1
      have hr9 := fun L h => (mPc_r hP hx L h).1
      have hr12 := fun L h => (mPc_r hP hx L h).2.2 h6
      rw [kPl_new h6 (by omega)] at hl ⊢
      rw [show 2 * (D + 1) + 9 + d = (2 * D + 9 + d + 1) + 1 by omega]
      refine eMt_write (2 * D + 9 + d + 1) c _ _ hc _ ?_
      rw [ldI_n (by omega) (by omega), hr9]
      have hcase : q.2.1 0 x = 6 ∨ q.2.1 0 x = 7 ∨ q.2.1 0 x = 8 ∨ q.2.1 0 x = 9 ∨ q.2.1 0 x = 10 ∨ q.2.1 0 x = 11 := by omega
      have hcol : ∀ (k w : Nat), q.2.1 0 x = k → (k = 6 ∨ k = 7) → sWd w (kPw 24 ++ (kQt (kWs k) ++ ([44] ++ kPw (if k = 6 then 23 else 25)))) → fMt_write_15 (2 * D + 9 + d + 1 + 1) c (nI x) w (mP c q L x t) = rV (mP c q (L ++ (kPlB T q (kPl T q D) x).1) h' t) := by
        intro k w hk h67 hw
        have h41 := hnd.2.2.1 (by omega)
        rcases kTt_b g2 with ⟨e, _⟩ | ⟨_, f, f0, f1, f2, f3⟩
        · omega
        have f20 := f2 0 (by omega)
        rw [h41] at f1
        rw [f0, f1] at f20
        have hx1 := (hP.2.2.2.2.1.2.2.2.1 x 0 h6 hx (by omega)).2.2.2.1
        have eB : kPlB T q (kPl T q D) x = (kPw 24 ++ (kQt (kWs k) ++ ([44] ++ (kPw (if k = 6 then 23 else 25) ++ ((kPl T q D (q.2.2 1 x 0 - 1) (x + 1)).1 ++ [125])))), (kPl T q D (q.2.2 1 x 0 - 1) (x + 1)).2) := by
          unfold kPlB
          rw [hk, if_pos h67]
        rw [eB] at hl ⊢
        have eup : ∀ L, mP c q L x t = mP c q L (x + 1) t := fun L => mP_up (fun i hi h9 h6i => by
          by_cases e : i = x
          · subst e; omega
          · omega)
        generalize hA : (kPl T q D (q.2.2 1 x 0 - 1) (x + 1)).1 = A at *
        generalize (if k = 6 then 23 else 25) = j at *
        simp only [List.length_append, List.length_cons, List.length_nil] at hl
        have hwr := ih (d + 1) (q.2.2 1 x 0 - 1) (x + 1) h' (L ++ (kPw 24 ++ (kQt (kWs k) ++ ([44] ++ kPw j)))) f20.2 (by omega) hh (by rw [hA]; simp only [List.length_append, List.length_cons, List.length_nil]; omega)
        rw [hA] at hwr
        have hkd := mPc_k hP h6 hx (show 0 < q.2.1 4 x by omega) (L ++ (kPw 24 ++ (kQt (kWs k) ++ ([44] ++ kPw j)))) (x + 1)
        refine eMt_write_15 (2 * D + 9 + d + 1) c _ _ _ hc _ ?_
        rw [eup, Mw_put (by omega) hc hw (by simp only [List.length_append, List.length_cons, List.length_nil]; omega), cG_V, ldI_n (by omega) (by omega), hr12, hkd.2.1, zI_S, ldI_n hkd.1 (by omega), hkd.2.2.1, zI_pos (by omega), show 2 * D + 9 + d + 1 = 2 * D + 9 + (d + 1) by omega, hwr, cG_V, Mw_put (by omega) hc (sWd_R (1067, [125]) (by decide)) (by simp only [List.length_append, List.length_cons, List.length_nil]; omega), cG_V]
        simp only [List.append_assoc]
        rfl
      have hnm : 9 ≤ q.2.1 0 x → fMt_writeNamed (2 * D + 9 + d + 1) c (nI x) (mP c q L x t) = rV (mP c q (L ++ (kPlB T q (kPl T q D) x).1) h' t) := fun h9 => Mw_nw hP ih (by omega) d h6 hx h9 hh g2 hl
      rcases hcase with hk | hk | hk | hk | hk | hk
      · rw [hk, if_pos (by decide), ldI_n (by omega) (by omega), hr9, hk, if_neg (fun e => e rfl)]
        exact hcol 6 1065 hk (.inl rfl) (sWd_R (1065, kPw 24 ++ (kQt (kWs 6) ++ ([44] ++ kPw 23))) (by decide))
      · rw [hk, if_neg (by decide), if_pos (by decide), ldI_n (by omega) (by omega), hr9, hk, if_pos (by decide)]
        exact hcol 7 1066 hk (.inr rfl) (sWd_R (1066, kPw 24 ++ (kQt (kWs 7) ++ ([44] ++ kPw 25))) (by decide))
      · rcases kTt_b g2 with ⟨e, _⟩ | ⟨_, f, f0, f1, f2, f3⟩
        · omega
        have eB : kPlB T q (kPl T q D) x = ([91] ++ ((kPlU q (kPl T q D) x (q.2.1 4 x) 0 (x + 1)).1 ++ [93]), (kPlU q (kPl T q D) x (q.2.1 4 x) 0 (x + 1)).2) := by
          unfold kPlB
          rw [if_neg (by omega), if_pos hk]
        rw [eB] at hl ⊢
        have eup : ∀ L, mP c q L x t = mP c q L (x + 1) t := fun L => mP_up (fun i hi h9 h6i => by
          by_cases e : i = x
          · subst e; omega
          · omega)
        simp only [List.length_append, List.length_cons, List.length_nil] at hl
        have hun := Mw_un hP ih (by omega) (d + 1) h6 hx f1 hh f2 f3 (q.2.1 4 x) 0 (L ++ [91]) (by omega) (by rw [f0]; simp only [List.length_append, List.length_cons, List.length_nil]; omega)
        rw [f0] at hun
        rw [hk, if_neg (by decide), if_neg (by decide), if_pos (by decide), eup, Mw_put (by omega) hc (sWd_R (1068, [91]) (by decide)) (by show L.length + 1 ≤ _; omega), cG_V, ldI_n (by omega) (by omega), hr12, show 2 * D + 9 + d + 1 + 1 = 2 * D + 9 + (d + 1) + 1 by omega, hun]
        simp only [List.append_assoc]
        rfl
      · rw [hk, if_neg (by decide), if_neg (by decide), if_neg (by decide), if_pos (by decide), hnm (by omega), cG_V]; rfl
      · rw [hk, if_neg (by decide), if_neg (by decide), if_neg (by decide), if_neg (by decide), if_pos (by decide), hnm (by omega), cG_V]; rfl
      · rw [hk, if_neg (by decide), if_neg (by decide), if_neg (by decide), if_neg (by decide), if_neg (by decide), if_pos (by decide), hnm (by omega), cG_V]; rfl
end
