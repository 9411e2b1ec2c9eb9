/-! the lake: the list is written; a file is stored -/
def xWl (k i : Nat) : Prop := k = 56 ∧ i = 1 ∨ k = 57 ∧ i < 512 ∨ k = 58 ∨ k = 64 ∨ k = 65
def xLs (k i : Nat) : Prop := k = 22 ∧ (i = 11 ∨ i = 14 ∨ i = 15 ∨ i = 16 ∨ i = 17) ∨ k = 32 ∧ i = 1 ∨ k = 34 ∨ k = 0 ∧ i = 16
section
variable {s : aT} {L L' : List yFi}
theorem Lk_wl {tn pw : Nat} (hl : lFi L' s) (hs : yLs L') (hL40 : L.length ≤ 40) (h6 : gI s 58 6 = nI tn) (htn : tn + 1 < 1000000) (hp : gI s 56 1 = zI pw) (hp2 : pw ≤ 1001) (hd : lDl tn L s) (h23 : ∀ t, t < 6 → gI s 23 t = nI t) (d : Nat) : if pw = 1 then ∃ s', fLk_writeList (d + 13) s = rI (-32) s' ∧ gI s' 56 1 = zI 0 ∧ lDl tn L s' ∧ lSc [] s' ∧ lFi [] s' ∧ gI s' 0 16 = 1 ∧ (∀ k i, ¬ xWl k i → ¬ xLs k i → gI s' k i = gI s k i) else ∃ s', fLk_writeList (d + 13) s = rI 0 s' ∧ gI s' 56 1 = zI (pw - 1) ∧ lDl (tn + 1) L' s' ∧ gI s' 58 6 = nI (tn + 1) ∧ lFi L' s' ∧ (∀ k i, ¬ xWl k i → gI s' k i = gI s k i) := by
  have hw := Fl_wt hl hs h6 htn hp (by omega) d
  have hlen := yLb_len (tn := tn + 1) hs.1
  have o1 : ∀ w pv k i, ¬ xWl k i → w ≤ 256 → gI (pI (yDw ((tn + 1) % 2) w 0 (yLb (tn + 1) L') (oB 64 (yLb (tn + 1) L') (pI s 58 6 (nI (tn + 1))))) 56 1 pv) k i = gI s k i := fun w pv k i hk hw => by
    unfold xWl at hk
    rw [gI_pI, if_neg (by omega), yDw_I, if_neg (by omega), oB_o (by omega) (by omega), gI_pI, if_neg (by omega)]
  have o57 : ∀ i, gI (oB 64 (yLb (tn + 1) L') (pI s 58 6 (nI (tn + 1)))) 57 i = gI s 57 i := fun i => by rw [oB_o (by omega) (by omega), gI_pI, if_neg (by omega)]
  by_cases h1 : pw = 1
  · rw [if_pos h1] at hw ⊢
    obtain ⟨s', r1, r2, r3, r4, r5⟩ := Lk_lp (s := pI (yDw ((tn + 1) % 2) 128 0 (yLb (tn + 1) L') (oB 64 (yLb (tn + 1) L') (pI s 58 6 (nI (tn + 1))))) 56 1 (-1)) (d + 10) (fun t ht => by rw [o1 128 _ 23 t (by unfold xWl; omega) (by omega)]; exact h23 t ht)
    have o57' : ∀ i, gI s' 57 i = gI (yDw ((tn + 1) % 2) 128 0 (yLb (tn + 1) L') (oB 64 (yLb (tn + 1) L') (pI s 58 6 (nI (tn + 1))))) 57 i := fun i => by rw [r5 57 i (by omega), gI_pI, if_neg (by omega)]
    refine ⟨s', eLk_writeList (d + 12) _ _ ?_, ?_, ?_, r2, r3, r4, fun k i a b => ?_⟩
    · rw [hw, cG_I, if_pos rfl, r1, cG_I]
      rfl
    · rw [r5 56 1 (by omega), gI_pI, if_pos ⟨rfl, rfl⟩]
      rfl
    · exact lDl_fr (fun i _ => o57' i) (lDl_torn yLb_bt (lDl_fr (fun i _ => o57 i) hd))
    · rw [r5 k i (fun e => by unfold xLs at b; unfold xWl at a; omega)]
      exact o1 128 _ k i a (by omega)
  · rw [if_neg h1] at hw ⊢
    refine ⟨_, eLk_writeList (d + 12) _ _ ?_, by rw [gI_pI, if_pos ⟨rfl, rfl⟩], ?_, ?_, ?_, fun k i a => o1 256 _ k i a (by omega)⟩
    · rw [hw, cG_I, if_neg (by decide)]
      rfl
    · exact lDl_fr (fun i _ => by rw [gI_pI, if_neg (by omega)]) (lDl_new htn hL40 hs.1 (lDl_fr (fun i _ => o57 i) hd))
    · rw [gI_pI, if_neg (by omega), yDw_o (by omega), oB_o (by omega) (by omega), gI_pI, if_pos ⟨rfl, rfl⟩]
    · refine ⟨?_, fun i hi => ?_⟩
      · rw [gI_pI, if_neg (by omega), yDw_o (by omega), oB_o (by omega) (by omega), gI_pI, if_neg (by omega)]
        exact hl.1
      · rw [o1 256 _ 59 i (by unfold xWl; omega) (by omega), o1 256 _ 60 i (by unfold xWl; omega) (by omega), o1 256 _ 61 i (by unfold xWl; omega) (by omega), o1 256 _ 62 i (by unfold xWl; omega) (by omega), o1 256 _ 63 i (by unfold xWl; omega) (by omega)]
        exact hl.2 i hi
/-- what storing a file may change -/
def xSt (k i : Nat) : Prop := k = 56 ∧ i = 1 ∨ k = 57 ∨ 58 ≤ k ∧ k ≤ 66
theorem yLs_add (hs : yLs L) {f : yFi} (h40 : L.length < 40) (hf : yOk f) : yLs (L ++ [f]) := by
  have hl : (L ++ [f]).length = L.length + 1 := by simp
  refine ⟨by omega, fun i hi => ?_⟩
  by_cases h : i = L.length
  · subst h; rw [gD_b]; exact hf
  · rw [gD_a (by omega)]; exact hs.2 i (by omega)
/-- a file is stored -/
theorem Lk_store {tn pw : Nat} (hs : yLs L) (hpk : ∀ i, i < L.length → (yPk (L.getD i yF0)).length ≤ 256 * yBk (L.getD i yF0).2.2.2.1) {P : List Nat} (hP : lBy 11 P s) (hPl : P.length ≤ 4096) (h6 : gI s 58 6 = nI tn) (htn : tn + 1 < 1000000) (hp : gI s 56 1 = zI pw) (hp2 : pw ≤ 1001) (hd : lDl tn L s) (hl : lFi L s) (hdf : lDf L s) (h23 : ∀ t, t < 6 → gI s 23 t = nI t) (d : Nat) {f : yFi} (hf : yRm L (yBk P.length) ≠ 0 → yOk f ∧ yPk f = P ∧ f.2.2.2.1 = P.length ∧ f.2.2.1 = yRm L (yBk P.length) - 1) : if L.length = 40 ∨ yRm L (yBk P.length) = 0 then ∃ s', fLk_storeFile (d + 14) (nI f.1) (nI f.2.1) (zI f.2.2.2.2.1) s = rI (-31) s' ∧ (∀ k i, k ≠ 66 → gI s' k i = gI s k i) else if pw ≠ 0 ∧ pw ≤ yBk P.length + 1 then ∃ s', fLk_storeFile (d + 14) (nI f.1) (nI f.2.1) (zI f.2.2.2.2.1) s = rI (-32) s' ∧ gI s' 56 1 = zI 0 ∧ lDl tn L s' ∧ lDf L s' ∧ lSc [] s' ∧ lFi [] s' ∧ gI s' 0 16 = 1 ∧ (∀ k i, ¬ xSt k i → ¬ xLs k i → gI s' k i = gI s k i) else ∃ s', fLk_storeFile (d + 14) (nI f.1) (nI f.2.1) (zI f.2.2.2.2.1) s = rI 0 s' ∧ gI s' 56 1 = zI (pw - (yBk P.length + 1)) ∧ lDl (tn + 1) (L ++ [f]) s' ∧ gI s' 58 6 = nI (tn + 1) ∧ lFi (L ++ [f]) s' ∧ lDf (L ++ [f]) s' ∧ (∀ k i, ¬ xSt k i → gI s' k i = gI s k i) := by
  have h40 := hs.1
  have hB : isB 11 := by unfold isB; decide
  have hnb := yBk_16 hPl
  obtain ⟨s1, g1, g2⟩ := Fl_rm hl hs (d + 6) (x := P.length) (by omega)
  have o1 : ∀ k i, k ≠ 66 → gI s1 k i = gI s k i := fun k i hk => g1.1 k i hk
  have hl1 : lFi L s1 := lFi_fr (fun k i a b => o1 k i (by omega)) hl
  have g2 : fFl_room (d + 13) (nI P.length) s = rI (zI (yRm L (yBk P.length))) s1 := g2
  by_cases hfull : L.length = 40 ∨ yRm L (yBk P.length) = 0
  · rw [if_pos hfull]
    refine ⟨s1, eLk_storeFile (d + 13) _ _ _ _ _ ?_, o1⟩
    rw [hP.1, g2, cG_I]
    by_cases h0 : yRm L (yBk P.length) = 0
    · rw [h0, if_pos zI_0]
      rfl
    · have hle := yRm_le h0
      have hm : ¬ zI (yRm L (yBk P.length)) = -1 := by rw [zI_n1 (by omega)]; exact h0
      rw [if_neg hm, hl1.1, if_neg (show ¬ nI L.length < 40 by rw [show (40 : Int32) = nI 40 from rfl, nI_ltE (by omega) (by omega)]; omega)]
      rfl
  · rw [if_neg hfull]
    have h0 : yRm L (yBk P.length) ≠ 0 := fun e => hfull (.inr e)
    have hlt : L.length < 40 := by have : L.length ≠ 40 := fun e => hfull (.inl e); omega
    obtain ⟨f1, f2, f3, f4⟩ := hf h0
    have hle := yRm_le h0
    have hfree : ∀ i, i < L.length → yAw (L.getD i yF0) f.2.2.1 (yBk P.length) := by
      have := of_decide_eq_true hle.2.2
      rw [f4]
      exact this
    have hm : ¬ zI (yRm L (yBk P.length)) = -1 := by rw [zI_n1 (by omega)]; exact h0
    have ez : zI (yRm L (yBk P.length)) = nI f.2.2.1 := by rw [zI_pos (by omega), f4]
    have hP1 : lBy 11 P s1 := lBy_fr (fun k i hk => o1 k i (by omega)) hP
    have hwf := Di_wf hB (by omega) hP1 (d + 5) (b := f.2.2.1) (pw := pw) (by omega) (by rw [o1 56 1 (by omega)]; exact hp) (by omega) hPl
    rw [show d + 5 + 8 = d + 13 by omega] at hwf
    have go : ∀ r, cG (fDi_writeFile (d + 13) (nI f.2.2.1) 11 s1) (kI fun v4 s3 => if ¬ v4 = 0 then cG (fFl_add (d + 13) (nI f.1) (nI f.2.1) (nI f.2.2.1) (gI s3 11 1) (zI f.2.2.2.2.1) s3) (kV fun s5 => cG (fLk_writeList (d + 13) s5) (kI fun v7 s6 => rI v7 s6)) else cG (fLk_losePower (d + 13) s3) (kI fun v9 s8 => rI v9 s8)) = some r → fLk_storeFile (d + 14) (nI f.1) (nI f.2.1) (zI f.2.2.2.2.1) s = some r := by
      intro r hr
      refine eLk_storeFile (d + 13) _ _ _ _ _ ?_
      rw [hP.1, g2, cG_I, if_neg hm, hl1.1, if_pos (show nI L.length < 40 by rw [show (40 : Int32) = nI 40 from rfl, nI_ltE (by omega) (by omega)]; omega), ez]
      exact hr
    by_cases hpw : pw = 0 ∨ yBk P.length < pw
    · rw [if_pos hpw] at hwf
      -- the file is written; now the list
      have d1 : lDl tn L (pI (yDw f.2.2.1 (256 * yBk P.length) 0 P s1) 56 1 (zI (pw - yBk P.length))) := lDl_fr (fun i _ => by rw [gI_pI, if_neg (by omega)]) (lDl_w hP.2.2.1 (by omega) (lDl_fr (fun i _ => o1 57 i (by omega)) hd))
      have l1 : lFi L (pI (yDw f.2.2.1 (256 * yBk P.length) 0 P s1) 56 1 (zI (pw - yBk P.length))) := lFi_fr (fun k i a b => by rw [gI_pI, if_neg (by omega), yDw_o (by omega)]) hl1
      have b1 : gI (pI (yDw f.2.2.1 (256 * yBk P.length) 0 P s1) 56 1 (zI (pw - yBk P.length))) 11 1 = nI f.2.2.2.1 := by rw [gI_pI, if_neg (by omega), yDw_o (by omega), f3]; exact hP1.1
      have df1 : lDf L (pI (yDw f.2.2.1 (256 * yBk P.length) 0 P s1) 56 1 (zI (pw - yBk P.length))) := fun i hi j hj => by
        rw [gI_pI, if_neg (by omega)]
        exact lDf_w hs hpk (n := yBk P.length) (Nat.le_refl _) (.inr hfree) (fun i hi j hj => by rw [o1 57 _ (by omega)]; exact hdf i hi j hj) i hi j hj
      have nf1 : ∀ j, j < P.length → gI (pI (yDw f.2.2.1 (256 * yBk P.length) 0 P s1) 56 1 (zI (pw - yBk P.length))) 57 (256 * f.2.2.1 + j) = mI (P.getD j 0) := fun j hj => by
        have := yBk_n P.length
        rw [gI_pI, if_neg (by omega), yDw_I, if_pos ⟨rfl, by omega, by omega⟩, show 0 + (256 * f.2.2.1 + j - 256 * f.2.2.1) = j by omega]
      have p1 : gI (pI (yDw f.2.2.1 (256 * yBk P.length) 0 P s1) 56 1 (zI (pw - yBk P.length))) 56 1 = zI (pw - yBk P.length) := by rw [gI_pI, if_pos ⟨rfl, rfl⟩]
      have oo : ∀ k i, ¬ xSt k i → gI (pI (yDw f.2.2.1 (256 * yBk P.length) 0 P s1) 56 1 (zI (pw - yBk P.length))) k i = gI s k i := fun k i hk => by
        unfold xSt at hk
        rw [gI_pI, if_neg (by omega), yDw_o (by omega), o1 k i (by omega)]
      have t1 : gI (pI (yDw f.2.2.1 (256 * yBk P.length) 0 P s1) 56 1 (zI (pw - yBk P.length))) 58 6 = nI tn := by rw [gI_pI, if_neg (by omega), yDw_o (by omega), o1 58 6 (by omega)]; exact h6
      generalize pI (yDw f.2.2.1 (256 * yBk P.length) 0 P s1) 56 1 (zI (pw - yBk P.length)) = u at *
      obtain ⟨s3, a1, a2, a3⟩ := Fl_ad l1 hlt f (d + 13)
      have o3 : ∀ k i, ¬ x58 k i → gI s3 k i = gI u k i := a1.1
      have hwl := Lk_wl (L := L) (L' := L ++ [f]) (s := s3) (tn := tn) (pw := pw - yBk P.length) a2 (yLs_add hs hlt f1) h40 (by rw [o3 58 6 (by show ¬ (59 ≤ 58 ∧ 58 ≤ 63 ∨ 58 = 58 ∧ 6 = 5); omega)]; exact t1) htn (by rw [o3 56 1 (by show ¬ (59 ≤ 56 ∧ 56 ≤ 63 ∨ 56 = 58 ∧ 1 = 5); omega)]; exact p1) (by omega) (lDl_fr (fun i _ => o3 57 i (by show ¬ (59 ≤ 57 ∧ 57 ≤ 63 ∨ 57 = 58 ∧ i = 5); omega)) d1) (fun t ht => by rw [o3 23 t (by show ¬ (59 ≤ 23 ∧ 23 ≤ 63 ∨ 23 = 58 ∧ t = 5); omega), oo 23 t (by unfold xSt; omega)]; exact h23 t ht) d
      have go2 : ∀ r, cG (fLk_writeList (d + 13) s3) (kI fun v7 s6 => rI v7 s6) = some r → fLk_storeFile (d + 14) (nI f.1) (nI f.2.1) (zI f.2.2.2.2.1) s = some r := fun r hr => by
        refine go r ?_
        rw [hwf, cG_I, if_pos (by decide), b1, a3, cG_V]
        exact hr
      have df3 : ∀ t : aT, (∀ i, 512 ≤ i → gI t 57 i = gI s3 57 i) → lDf L t := fun t ht i hi j hj => by
        have := (hs.2 i hi).2.1
        rw [ht _ (by omega), o3 57 _ (by show ¬ (59 ≤ 57 ∧ 57 ≤ 63 ∨ 57 = 58 ∧ _ = 5); omega)]
        exact df1 i hi j hj
      by_cases h1 : pw - yBk P.length = 1
      · rw [if_pos h1] at hwl
        rw [if_pos (by omega)]
        obtain ⟨s', r1, r2, r3, r4, r5, r6, r7⟩ := hwl
        refine ⟨s', go2 _ (by rw [r1, cG_I]; rfl), r2, r3, df3 s' (fun i hi => r7 57 i (by unfold xWl; omega) (by unfold xLs; omega)), r4, r5, r6, fun k i a b => ?_⟩
        unfold xSt at a
        rw [r7 k i (by unfold xWl; omega) b, o3 k i (by show ¬ (59 ≤ k ∧ k ≤ 63 ∨ k = 58 ∧ i = 5); omega), oo k i (by unfold xSt; omega)]
      · rw [if_neg h1] at hwl
        rw [if_neg (by omega)]
        obtain ⟨s', r1, r2, r3, r4, r5, r6⟩ := hwl
        refine ⟨s', go2 _ (by rw [r1, cG_I]; rfl), by rw [r2]; congr 1, r3, r4, r5, ?_, fun k i a => ?_⟩
        · have hD := df3 s' (fun i hi => r6 57 i (by unfold xWl; omega))
          intro i hi j hj
          have hlen : (L ++ [f]).length = L.length + 1 := by simp
          by_cases e : i = L.length
          · subst e
            rw [gD_b] at hj ⊢
            rw [f2] at hj ⊢
            rw [r6 57 _ (by unfold xWl; omega), o3 57 _ (by show ¬ (59 ≤ 57 ∧ 57 ≤ 63 ∨ 57 = 58 ∧ _ = 5); omega)]
            exact nf1 j hj
          · rw [gD_a (by omega)] at hj ⊢
            exact hD i (by omega) j hj
        · unfold xSt at a
          rw [r6 k i (by unfold xWl; omega), o3 k i (by show ¬ (59 ≤ k ∧ k ≤ 63 ∨ k = 58 ∧ i = 5); omega), oo k i (by unfold xSt; omega)]
    · rw [if_neg hpw] at hwf
      rw [if_pos (by omega)]
      obtain ⟨u, w1, w2, w3, w4⟩ := hwf
      have w2 := w2.1
      have ou : ∀ k i, k ≠ 57 → ¬ (k = 56 ∧ i = 1) → gI u k i = gI s1 k i := fun k i a b => w2 k i (by show ¬ (k = 57 ∧ _ ∨ k = 56 ∧ i = 1); omega)
      obtain ⟨s', r1, r2, r3, r4, r5⟩ := Lk_lp (s := u) (d + 11) (fun t ht => by rw [ou 23 t (by omega) (by omega), o1 23 t (by omega)]; exact h23 t ht)
      refine ⟨s', go _ ?_, ?_, ?_, ?_, r2, r3, r4, fun k i a b => ?_⟩
      · rw [w1, cG_I, if_neg (fun e => e rfl), r1, cG_I]
        rfl
      · rw [r5 56 1 (by omega), w3]
        rfl
      · exact lDl_by (fun i hi => by rw [r5 57 i (by omega), w2 57 i (by show ¬ (57 = 57 ∧ 256 * f.2.2.1 ≤ i ∧ _ ∨ 57 = 56 ∧ i = 1); omega), o1 57 i (by omega)]) (fun i => by rw [r5 57 i (by omega), ← o1 57 i (by omega)]; exact w4 i) hd
      · intro i hi j hj
        have h1 := hpk i hi
        have h2 := hfree i hi
        unfold yAw at h2
        rw [r5 57 _ (by omega), w2 57 _ (by show ¬ (57 = 57 ∧ 256 * f.2.2.1 ≤ _ ∧ _ < 256 * (f.2.2.1 + yBk P.length) ∨ 57 = 56 ∧ _ = 1); omega), o1 57 _ (by omega)]
        exact hdf i hi j hj
      · unfold xSt at a
        rw [r5 k i (by unfold xLs at b; omega), ou k i (by omega) (by omega), o1 k i (by omega)]
end
