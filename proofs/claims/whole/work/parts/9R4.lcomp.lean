/-! compact: the lake -/
section
variable {c : Nat} {S : yS} {s : aT} {L : List yFi} {n a b : Nat}
theorem Fl_mg (hl : lFi L s) (hs : yLs L) (hab : a < b) (hbl : b < L.length) {f : yFi} (fx : f.1 = (L.getD a yF0).1) (fv : f.2.1 = (L.getD a yF0).2.1) (fr : zI f.2.2.2.2.1 = zI (L.getD a yF0).2.2.2.2.1 + zI (L.getD b yF0).2.2.2.2.1) (hok : yLs (L.set a f)) (d : Nat) : ∃ s', (∀ k i, ¬ (59 ≤ k ∧ k ≤ 63 ∨ k = 58 ∧ i = 5) → gI s' k i = gI s k i) ∧ lFi ((L.set a f).eraseIdx b) s' ∧ fFl_merge (d + 1) (nI a) (nI b) (nI f.2.2.1) (nI f.2.2.2.1) s = rV s' := by
  have h40 := hs.1
  have ha : a < L.length := by omega
  have o : ∀ k i, ¬ (61 ≤ k ∧ k ≤ 63 ∧ i = a) → gI (pI (pI (pI s 61 a (nI f.2.2.1)) 62 a (nI f.2.2.2.1)) 63 a (zI f.2.2.2.2.1)) k i = gI s k i := fun k i h => by rw [gI_pI, if_neg (by omega), gI_pI, if_neg (by omega), gI_pI, if_neg (by omega)]
  have h1 : lFi (L.set a f) (pI (pI (pI s 61 a (nI f.2.2.1)) 62 a (nI f.2.2.2.1)) 63 a (zI f.2.2.2.2.1)) := by
    refine ⟨by rw [o 58 5 (by omega), gD_sl]; exact hl.1, fun i hi => ?_⟩
    rw [gD_sl] at hi
    obtain ⟨b1, b2, b3, b4, b5⟩ := hl.2 i hi
    rw [gD_set ha]
    by_cases e : i = a
    · subst e
      rw [if_pos rfl, o 59 i (by omega), o 60 i (by omega), fx, fv]
      refine ⟨b1, b2, ?_, ?_, ?_⟩
      · rw [gI_pI, if_neg (by omega), gI_pI, if_neg (by omega), gI_pI, if_pos ⟨rfl, rfl⟩]
      · rw [gI_pI, if_neg (by omega), gI_pI, if_pos ⟨rfl, rfl⟩]
      · rw [gI_pI, if_pos ⟨rfl, rfl⟩]
    · rw [if_neg e, o 59 i (by omega), o 60 i (by omega), o 61 i (by omega), o 62 i (by omega), o 63 i (by omega)]
      exact ⟨b1, b2, b3, b4, b5⟩
  obtain ⟨s', r1, r2, r3⟩ := Fl_re h1 hok d (k := b) (by rw [gD_sl]; exact hbl)
  refine ⟨s', fun k i h => by rw [r1.1 k i h]; exact o k i (by omega), r2, eFl_merge d _ _ _ _ _ _ ?_⟩
  have e63 : ∀ i, gI (pI (pI s 61 a (nI f.2.2.1)) 62 a (nI f.2.2.2.1)) 63 i = gI s 63 i := fun i => by rw [gI_pI, if_neg (by omega), gI_pI, if_neg (by omega)]
  rw [stI_n (by omega) (by omega), stI_n (by omega) (by omega), ldI_n (by omega) (by omega), ldI_n (by omega) (by omega), e63, e63, (hl.2 a ha).2.2.2.2, (hl.2 b hbl).2.2.2.2, ← fr, stI_n (by omega) (by omega), r3, cG_V]
  rfl
/-- the two become one -/
theorem Lk_rb (hw : yWf S) (hd0 : S.dn = false) (h : yLI c S s) (hc : c ≤ 100000) (hab : a < b) (hbl : b < S.fs.length) (ha : yIs (S.fs.getD a yF0) n) (hb : yIs (S.fs.getD b yF0) n) (hp : yPok S.fs n a b) (hP : lBy 11 (yPr (((S.fs.getD a yF0).2.2.2.2.1 - 1) + ((S.fs.getD b yF0).2.2.2.2.1 - 1)) ((S.fs.getD a yF0).2.2.2.2.2 ++ (S.fs.getD b yF0).2.2.2.2.2)) s) (d : Nat) : ∃ s', fLk_replaceBoth (d + 14) (nI a) (nI b) s = rI (if (yJn S a b).1 = 0 then 1 else nEg (yJn S a b).1) s' ∧ yLI (c + 1) (yJn S a b).2 s' ∧ xLk s s' := by
  have hL := hw.2.2.2.2
  have h40 := hL.1.1
  have hal : a < S.fs.length := by omega
  have hB : isB 11 := by unfold isB; decide
  have ePl : (yPr (((S.fs.getD a yF0).2.2.2.2.1 - 1) + ((S.fs.getD b yF0).2.2.2.2.1 - 1)) ((S.fs.getD a yF0).2.2.2.2.2 ++ (S.fs.getD b yF0).2.2.2.2.2)).length = yJw S.fs a b := by
    rw [yPr_len, List.length_append]
    rfl
  have hPl : yJw S.fs a b ≤ 4096 := hp.2
  have hpkf : yPk (yJf S.fs a b) = yPr (((S.fs.getD a yF0).2.2.2.2.1 - 1) + ((S.fs.getD b yF0).2.2.2.2.1 - 1)) ((S.fs.getD a yF0).2.2.2.2.2 ++ (S.fs.getD b yF0).2.2.2.2.2) := yPr_pk
  generalize yPr (((S.fs.getD a yF0).2.2.2.2.1 - 1) + ((S.fs.getD b yF0).2.2.2.2.1 - 1)) ((S.fs.getD a yF0).2.2.2.2.2 ++ (S.fs.getD b yF0).2.2.2.2.2) = P at *
  have hnb := yBk_16 hPl
  have hpk : ∀ i, i < S.fs.length → (yPk (S.fs.getD i yF0)).length ≤ 256 * yBk (S.fs.getD i yF0).2.2.2.1 := fun i hi => by
    have h1 := (yLw_dl hL hi).2
    have h2 := yBk_n (S.fs.getD i yF0).2.2.2.1
    omega
  have h0all := h
  obtain ⟨⟨p1, p2⟩, ⟨q1, q2, q3⟩, d1, ⟨tn, e1, e2, e3⟩, f1, g1, i1, j1⟩ := h
  rw [yUp_f hd0] at f1 g1
  have hpw := hw.2.2.2.1
  obtain ⟨s1, m1, m2⟩ := Fl_rm f1 hL.1 (d + 6) (x := P.length) (by omega)
  rw [ePl] at m2
  have o1 : ∀ k i, k ≠ 66 → gI s1 k i = gI s k i := fun k i hk => m1.1 k i hk
  have hl1 : lFi S.fs s1 := lFi_fr (fun k i a b => o1 k i (by omega)) f1
  have m2 : fFl_room (d + 13) (nI (yJw S.fs a b)) s = rI (zI (yRm S.fs (yBk (yJw S.fs a b)))) s1 := m2
  have hP11 : gI s 11 1 = nI (yJw S.fs a b) := by rw [hP.1, ePl]
  by_cases h0 : yRm S.fs (yBk (yJw S.fs a b)) = 0
  · have er : yJn S a b = (31, S) := if_pos h0
    rw [er]
    refine ⟨s1, eLk_replaceBoth (d + 13) _ _ _ _ ?_, yLI_fr (fun k i hk hx => o1 k i (fun e => hx (by unfold xTr; omega))) (by omega) h0all, fun k i hk => o1 k i (by omega)⟩
    rw [hP11, m2, cG_I, h0, if_neg (fun e => e zI_0)]
    rfl
  · obtain ⟨hok, hL1⟩ := yJ_ok hL hab hbl ha hb hp h0
    have hle := yRm_le h0
    have hL2 : yLw ((S.fs.set a (yJf S.fs a b)).eraseIdx b) := yLw_er hL1 (by rw [gD_sl]; exact hbl) (by rw [gD_set hal, if_neg (by omega)]; exact hb.2)
    have hfree : ∀ i, i < S.fs.length → yAw (S.fs.getD i yF0) (yRm S.fs (yBk (yJw S.fs a b)) - 1) (yBk (yJw S.fs a b)) := fun i hi => of_decide_eq_true hle.2.2 i hi
    have hm : ¬ zI (yRm S.fs (yBk (yJw S.fs a b))) = -1 := by rw [zI_n1 (by omega)]; exact h0
    have ez : zI (yRm S.fs (yBk (yJw S.fs a b))) = nI (yRm S.fs (yBk (yJw S.fs a b)) - 1) := zI_pos (x := yRm S.fs (yBk (yJw S.fs a b))) (by omega)
    have hP1 : lBy 11 P s1 := lBy_fr (fun k i hk => o1 k i (by omega)) hP
    have hwf := Di_wf hB (by omega) hP1 (d + 5) (b := yRm S.fs (yBk (yJw S.fs a b)) - 1) (pw := S.pw) (by rw [ePl]; omega) (by rw [o1 56 1 (by omega)]; exact d1) (by omega) (by omega)
    rw [show d + 5 + 8 = d + 13 by omega, ePl] at hwf
    have go : ∀ r, cG (fDi_writeFile (d + 13) (nI (yRm S.fs (yBk (yJw S.fs a b)) - 1)) 11 s1) (kI fun v4 s3 => if ¬ v4 = 0 then cG (fFl_merge (d + 13) (nI a) (nI b) (nI (yRm S.fs (yBk (yJw S.fs a b)) - 1)) (gI s3 11 1) s3) (kV fun s5 => cG (fLk_writeList (d + 13) s5) (kI fun v7 s6 => if ¬ v7 = 0 then rI v7 s6 else rI 1 s6)) else cG (fLk_losePower (d + 13) s3) (kI fun v9 s8 => rI v9 s8)) = some r → fLk_replaceBoth (d + 14) (nI a) (nI b) s = some r := by
      intro r hr
      refine eLk_replaceBoth (d + 13) _ _ _ _ ?_
      rw [hP11, m2, cG_I, if_pos hm, ez]
      exact hr
    have efb : (yJf S.fs a b).2.2.1 = yRm S.fs (yBk (yJw S.fs a b)) - 1 := rfl
    have efw : (yJf S.fs a b).2.2.2.1 = yJw S.fs a b := rfl
    have b2 : 2 ≤ yRm S.fs (yBk (yJw S.fs a b)) - 1 := by omega
    -- what becomes of a lake that lost its power
    have lost : ∀ s', gI s' 56 1 = zI 0 → lDl tn S.fs s' → lDf S.fs s' → lSc [] s' → lFi [] s' → gI s' 0 16 = 1 → (∀ k i, ¬ xSt k i → ¬ xLs k i → gI s' k i = gI s k i) → yLI (c + 1) ((S.spw 0).sdn true) s' ∧ xLk s s' := fun s' r2 r3 r4 r5 r6 r7 r8 => by
      have ox : ∀ k i, (k < 7 ∧ ¬ (k = 0 ∧ i = 16)) ∨ k = 49 ∨ k = 50 ∨ 67 ≤ k → gI s' k i = gI s k i := fun k i hk => r8 k i (by unfold xSt; omega) (by unfold xLs; omega)
      exact ⟨⟨⟨by rw [ox 0 15 (by omega)]; exact p1, by rw [r7]; rfl⟩, ⟨lBy_fr (fun k i hk => ox k i (by omega)) q1, lBy_fr (fun k i hk => ox k i (by omega)) q2, lBy_fr (fun k i hk => ox k i (by omega)) q3⟩, r2, ⟨tn, by omega, r3, fun e => by cases e⟩, r6, r5, r4, lMk_fr (ox 49 4 (by omega)) (fun i _ => ox 50 i (by omega)) (by omega) j1⟩, fun k i hk => ox k i (by omega)⟩
    have h23 : ∀ t, t < 6 → gI s 23 t = nI t := g1.2.1
    have hbP : kBt P := hP.2.2.1
    have frz : zI (yJf S.fs a b).2.2.2.2.1 = zI (S.fs.getD a yF0).2.2.2.2.1 + zI (S.fs.getD b yF0).2.2.2.2.1 := by
      show zI (((S.fs.getD a yF0).2.2.2.2.1 - 1) + ((S.fs.getD b yF0).2.2.2.2.1 - 1) + 1) = _
      rw [zI_S, zI_pos (x := (S.fs.getD a yF0).2.2.2.2.1) (Nat.pos_of_ne_zero ha.2), zI_pos (x := (S.fs.getD b yF0).2.2.2.2.1) (Nat.pos_of_ne_zero hb.2), nI_addE]
    have fj0 : (yJf S.fs a b).2.2.2.2.1 ≠ 0 := by show ¬ _ + 1 = 0; omega
    have fx : (yJf S.fs a b).1 = (S.fs.getD a yF0).1 := rfl
    have fv : (yJf S.fs a b).2.1 = (S.fs.getD a yF0).2.1 := rfl
    have erJ : yJn S a b = if S.pw ≠ 0 ∧ S.pw ≤ yBk (yJw S.fs a b) + 1 then (32, (S.spw 0).sdn true) else (0, (S.spw (S.pw - (yBk (yJw S.fs a b) + 1))).sfs ((S.fs.set a (yJf S.fs a b)).eraseIdx b)) := if_neg h0
    generalize hff : yJf S.fs a b = f at *
    generalize hww : yJw S.fs a b = W at *
    rw [← efb] at hwf go hfree b2
    clear ez hm m2 hle
    by_cases hpw2 : S.pw = 0 ∨ yBk W < S.pw
    · rw [if_pos hpw2] at hwf
      have hbb : f.2.2.1 + yBk W ≤ 128 := by have := hok.2.1.2; rw [efw] at this; exact this
      have dl1 : lDl tn S.fs (pI (yDw f.2.2.1 (256 * yBk W) 0 P s1) 56 1 (zI (S.pw - yBk W))) := lDl_fr (fun i _ => by rw [gI_pI, if_neg (by omega)]) (lDl_w hbP (by omega) (lDl_fr (fun i _ => o1 57 i (by omega)) e2))
      have l1 : lFi S.fs (pI (yDw f.2.2.1 (256 * yBk W) 0 P s1) 56 1 (zI (S.pw - yBk W))) := lFi_fr (fun k i a b => by rw [gI_pI, if_neg (by omega), yDw_o (by omega)]) hl1
      have b1 : gI (pI (yDw f.2.2.1 (256 * yBk W) 0 P s1) 56 1 (zI (S.pw - yBk W))) 11 1 = nI f.2.2.2.1 := by rw [gI_pI, if_neg (by omega), yDw_o (by omega), o1 11 1 (by omega), efw]; exact hP11
      have df1 : lDf S.fs (pI (yDw f.2.2.1 (256 * yBk W) 0 P s1) 56 1 (zI (S.pw - yBk W))) := fun i hi j hj => by
        rw [gI_pI, if_neg (by omega)]
        exact lDf_w hL.1 hpk (n := yBk W) (Nat.le_refl _) (.inr hfree) (fun i hi j hj => by rw [o1 57 _ (by omega)]; exact i1 i hi j hj) i hi j hj
      have nf1 : ∀ j, j < P.length → gI (pI (yDw f.2.2.1 (256 * yBk W) 0 P s1) 56 1 (zI (S.pw - yBk W))) 57 (256 * f.2.2.1 + j) = mI (P.getD j 0) := fun j hj => by
        have := yBk_n W
        rw [gI_pI, if_neg (by omega), yDw_I, if_pos ⟨rfl, by omega, by omega⟩, show 0 + (256 * f.2.2.1 + j - 256 * f.2.2.1) = j by omega]
      have pp : gI (pI (yDw f.2.2.1 (256 * yBk W) 0 P s1) 56 1 (zI (S.pw - yBk W))) 56 1 = zI (S.pw - yBk W) := by rw [gI_pI, if_pos ⟨rfl, rfl⟩]
      have oo : ∀ k i, ¬ xSt k i → gI (pI (yDw f.2.2.1 (256 * yBk W) 0 P s1) 56 1 (zI (S.pw - yBk W))) k i = gI s k i := fun k i hk => by
        unfold xSt at hk
        rw [gI_pI, if_neg (by omega), yDw_o (by omega), o1 k i (by omega)]
      have t1 : gI (pI (yDw f.2.2.1 (256 * yBk W) 0 P s1) 56 1 (zI (S.pw - yBk W))) 58 6 = nI tn := by rw [gI_pI, if_neg (by omega), yDw_o (by omega), o1 58 6 (by omega)]; exact e3 hd0
      generalize pI (yDw f.2.2.1 (256 * yBk W) 0 P s1) 56 1 (zI (S.pw - yBk W)) = u at *
      obtain ⟨s3, o3, a2, a3⟩ := Fl_mg l1 hL.1 hab hbl fx fv frz hL1.1 (d + 12)
      have hwl := Lk_wl (L := S.fs) (L' := (S.fs.set a f).eraseIdx b) (s := s3) (tn := tn) (pw := S.pw - yBk W) a2 hL2.1 h40 (by rw [o3 58 6 (by omega)]; exact t1) (by omega) (by rw [o3 56 1 (by omega)]; exact pp) (by omega) (lDl_fr (fun i _ => o3 57 i (by omega)) dl1) (fun t ht => by rw [o3 23 t (by omega), oo 23 t (by unfold xSt; omega)]; exact h23 t ht) d
      have go2 : ∀ r, cG (fLk_writeList (d + 13) s3) (kI fun v7 s6 => if ¬ v7 = 0 then rI v7 s6 else rI 1 s6) = some r → fLk_replaceBoth (d + 14) (nI a) (nI b) s = some r := fun r hr => by
        refine go r ?_
        rw [hwf, cG_I, if_pos (by decide), b1, show d + 13 = d + 12 + 1 by omega, a3, cG_V]
        exact hr
      by_cases h1 : S.pw - yBk W = 1
      · rw [if_pos h1] at hwl
        rw [if_pos (by omega)] at erJ
        obtain ⟨s', r1, r2, r3, r4, r5, r6, r7⟩ := hwl
        obtain ⟨z1, z2⟩ := lost s' r2 r3 (fun i hi j hj => by
          have := (hL.1.2 i hi).2.1
          rw [r7 57 _ (by unfold xWl; omega) (by unfold xLs; omega), o3 57 _ (by omega)]
          exact df1 i hi j hj) r4 r5 r6 (fun k i x1 x2 => by
          unfold xSt at x1
          rw [r7 k i (by unfold xWl; omega) x2, o3 k i (by omega), oo k i (by unfold xSt; omega)])
        rw [erJ]
        refine ⟨s', go2 _ ?_, z1, z2⟩
        rw [r1, cG_I, if_pos (by decide), if_neg (show ¬ 32 = 0 by decide)]
        rfl
      · rw [if_neg h1] at hwl
        rw [if_neg (by omega)] at erJ
        obtain ⟨s', r1, r2, r3, r4, r5, r6⟩ := hwl
        have ox : ∀ k i, k < 56 ∨ 67 ≤ k → gI s' k i = gI s k i := fun k i hk => by rw [r6 k i (by unfold xWl; omega), o3 k i (by omega), oo k i (by unfold xSt; omega)]
        have hb2 : b < (S.fs.set a f).length := by rw [gD_sl]; exact hbl
        have hb0 : ((S.fs.set a f).getD b yF0).2.2.2.2.1 ≠ 0 := by rw [gD_set hal, if_neg (by omega)]; exact hb.2
        rw [erJ]
        refine ⟨s', go2 _ ?_, ⟨⟨by rw [ox 0 15 (by omega)]; exact p1, by rw [ox 0 16 (by omega)]; exact p2⟩, ⟨lBy_fr (fun k i hk => ox k i (by omega)) q1, lBy_fr (fun k i hk => ox k i (by omega)) q2, lBy_fr (fun k i hk => ox k i (by omega)) q3⟩, ?_, ⟨tn + 1, by omega, r3, fun _ => r4⟩, ?_, ?_, ?_, lMk_fr (ox 49 4 (by omega)) (fun i _ => ox 50 i (by omega)) (by omega) j1⟩, fun k i hk => ox k i (by omega)⟩
        · rw [r1, cG_I, if_neg (fun e => e rfl), if_pos rfl]
          try rfl
        · rw [r2]
          show zI (S.pw - yBk W - 1) = zI (S.pw - (yBk W + 1))
          congr 1
        · rw [yUp_f (S := (S.spw (S.pw - (yBk W + 1))).sfs ((S.fs.set a f).eraseIdx b)) hd0]
          exact r5
        · rw [yUp_f (S := (S.spw (S.pw - (yBk W + 1))).sfs ((S.fs.set a f).eraseIdx b)) hd0]
          exact lSc_fr (fun k i _ _ => ox k i (by omega)) (lSc_er (lSc_set g1 hal ha.2 fj0) hb2 hb0)
        · have hD := lDf_er (lDf_set (s := u) (f := f) df1 hal (fun j hj => by
            rw [hpkf] at hj ⊢
            exact nf1 j hj)) hb2
          intro i hi j hj
          have hi : i < ((S.fs.set a f).eraseIdx b).length := hi
          have := (hL2.1.2 i hi).2.1
          show gI s' 57 (256 * (((S.fs.set a f).eraseIdx b).getD i yF0).2.2.1 + j) = _
          rw [r6 57 _ (by unfold xWl; omega), o3 57 _ (by omega)]
          exact hD i hi j hj
    · rw [if_neg hpw2] at hwf
      rw [if_pos (by omega)] at erJ
      obtain ⟨u, w1, w2, w3, w4⟩ := hwf
      have w2 := w2.1
      have ou : ∀ k i, k ≠ 57 → ¬ (k = 56 ∧ i = 1) → gI u k i = gI s1 k i := fun k i x y => w2 k i (by show ¬ (k = 57 ∧ _ ∨ k = 56 ∧ i = 1); omega)
      obtain ⟨s', r1, r2, r3, r4, r5⟩ := Lk_lp (s := u) (d + 11) (fun t ht => by rw [ou 23 t (by omega) (by omega), o1 23 t (by omega)]; exact h23 t ht)
      obtain ⟨z1, z2⟩ := lost s' (by rw [r5 56 1 (by omega), w3]; rfl) (lDl_by (fun i hi => by rw [r5 57 i (by omega), w2 57 i (by show ¬ (57 = 57 ∧ 256 * f.2.2.1 ≤ i ∧ _ ∨ 57 = 56 ∧ i = 1); omega), o1 57 i (by omega)]) (fun i => by rw [r5 57 i (by omega), ← o1 57 i (by omega)]; exact w4 i) e2) (fun i hi j hj => by
        have h1 := hpk i hi
        have h2 := hfree i hi
        unfold yAw at h2
        rw [r5 57 _ (by omega), w2 57 _ (by show ¬ (57 = 57 ∧ 256 * f.2.2.1 ≤ _ ∧ _ < 256 * (f.2.2.1 + yBk W) ∨ 57 = 56 ∧ _ = 1); omega), o1 57 _ (by omega)]
        exact i1 i hi j hj) r2 r3 r4 (fun k i x1 x2 => by
        unfold xSt at x1
        rw [r5 k i (by unfold xLs at x2; omega), ou k i (by omega) (by omega), o1 k i (by omega)])
      rw [erJ]
      refine ⟨s', go _ ?_, z1, z2⟩
      rw [w1, cG_I, if_neg (fun e => e rfl), r1, cG_I, if_neg (show ¬ 32 = 0 by decide)]
      rfl
end
