/-! copy: the reference -/
def xGm (s s' : aT) : Prop := (∀ k i, ¬ (91 ≤ k ∧ k < 113) → k ≠ 144 → k ≠ 147 → ¬ (k = 67 ∧ (i = 22 ∨ i = 24 ∨ i = 25 ∨ i = 31 ∨ i = 32)) → gI s' k i = gI s k i) ∧ (∀ k i, ¬ (91 ≤ k ∧ k < 113) → gL s' k i = gL s k i) ∧ s'.2.2.2 = s.2.2.2
/-- where gathering stands, in the reference -/
def yGm (s0 : aT) (Ms : Nat → List Nat) (bs : Nat → Bool) (g : Nat) (s : aT) : Prop := xGm s0 s ∧ (∀ i, i < (yCat Ms g).length → i < 4200 → gI s 147 i = mI ((yCat Ms g).getD i 0)) ∧ (yCat Ms g).length ≤ 4096 * g ∧ ∀ i, i < g → (Ms i).length ≤ 4096 ∧ bs i = true
def yCg (S : yS) (m v : Nat) (R : List Nat) (Ms : Nat → List Nat) (bs : Nat → Bool) (N g : Nat) : Nat × Int32 × yS := if yGf Ms bs (N - g) g = 0 then (if (yCat Ms N).length = 0 then (0, -34, S) else if ySo (yQ R) (yX R) Ms N = true then yCs (ySt S m v (yWa N (yCat Ms N).length) (N + 1) (yCat Ms N)) N else (0, -31, S)) else (0, nEg (yGf Ms bs (N - g) g), S)
def yMg (s0 : aT) (F : aRs) (r : Nat × Int32 × yS) : Prop := ∃ s', F = rI r.2.1 s' ∧ gI s' 67 0 = nI 0 ∧ yMI r.2.2 s' ∧ xMo s0 s'
section
variable {S : yS} {s s0 : aT} {n N m v : Nat} {R : List Nat} {gs : Nat → Nat → Nat} {Ms : Nat → List Nat} {bs : Nat → Bool}
theorem yMg_go {F G : aRs} {r : Nat × Int32 × yS} (h : yMg s0 F r) (go : ∀ x, F = some x → G = some x) : yMg s0 G r := by
  obtain ⟨s', h1, h2⟩ := h
  exact ⟨s', go _ h1, h2⟩
theorem yCg_S {g : Nat} (hg : g < N) (hl : (Ms g).length ≤ 4096) (hb : bs g = true) : yCg S m v R Ms bs N g = yCg S m v R Ms bs N (g + 1) := by
  have e : yGf Ms bs (N - g) g = yGf Ms bs (N - (g + 1)) (g + 1) := by
    rw [show N - g = N - (g + 1) + 1 by omega]
    show (if (Ms g).length ≤ 4096 then (if bs g = true then yGf Ms bs (N - (g + 1)) (g + 1) else 20) else 31) = _
    rw [if_pos hl, if_pos hb]
  unfold yCg
  rw [e]
theorem yGf_of : ∀ k i, (∀ j, i ≤ j → j < i + k → (Ms j).length ≤ 4096 ∧ bs j = true) → yGf Ms bs k i = 0
  | 0, i, _ => rfl
  | k + 1, i, h => by
    unfold yGf
    rw [if_pos (h i (Nat.le_refl _) (by omega)).1, if_pos (h i (Nat.le_refl _) (by omega)).2]
    exact yGf_of k (i + 1) (fun j h1 h2 => h j (by omega) (by omega))
theorem xGm_MI (h : yMI S s0) (hx : ∀ k i, ¬ (91 ≤ k ∧ k < 113) → k ≠ 144 → k ≠ 147 → ¬ (k = 67 ∧ (i = 22 ∨ i = 24 ∨ i = 25 ∨ i = 31 ∨ i = 32)) → gI s k i = gI s0 k i) : yMI S s := yMI_fr (fun k i hk hn => hx k i (fun e => hn (by unfold xTm; omega)) (fun e => hn (by unfold xTm; omega)) (fun e => hn (by unfold xTm; omega)) (fun e => hn (by unfold xTm; omega))) h
/-- letters come over -/
theorem Mo_c101 {x1 x2 x3 z5 z7 z8 : Int32} (d : Nat) {M : List Nat} (hb : kBt M) (hM : M.length ≤ 4096) {g0 : Nat} (hg0 : g0 < 1000000000) : ∀ k j, j + k = M.length → ∀ s, gI s 67 22 = nI M.length → (∀ i, i < M.length → gI s 144 i = mI (M.getD i 0)) → ∃ s', (∀ R, fMo_copy_122 (d + 1) x1 x2 x3 z5 (nI g0) z7 z8 s' = some R → fMo_copy_101 (d + 1) x1 x2 x3 z5 (nI g0) z7 z8 (nI j) s = some R) ∧ (∀ k i, k ≠ 147 → gI s' k i = gI s k i) ∧ s'.2 = s.2 ∧ (∀ i, i < g0 + j → gI s' 147 i = gI s 147 i) ∧ ∀ i, j ≤ i → i < M.length → g0 + i < 4200 → gI s' 147 (g0 + i) = mI (M.getD i 0) := by
  intro k
  induction k with
  | zero =>
    intro j hj s h22 _
    refine ⟨s, fun R hR => eMo_copy_101 d _ _ _ _ _ _ _ _ _ _ ?_, fun _ _ _ => rfl, rfl, fun _ _ => rfl, fun i h1 h2 => by omega⟩
    rw [h22, if_pos (show nI M.length ≤ nI j by rw [nI_leE (by omega) (by omega)]; omega)]
    exact hR
  | succ k ih =>
    intro j hj s h22 h144
    by_cases hq : 4200 ≤ g0 + j
    · refine ⟨s, fun R hR => eMo_copy_101 d _ _ _ _ _ _ _ _ _ _ ?_, fun _ _ _ => rfl, rfl, fun _ _ => rfl, fun i h1 h2 h3 => by omega⟩
      rw [h22, if_neg (show ¬ nI M.length ≤ nI j by rw [nI_leE (by omega) (by omega)]; omega), nI_addE, if_pos (show (4200 : Int32) ≤ nI (g0 + j) by rw [show (4200 : Int32) = nI 4200 from rfl, nI_leE (by omega) (by omega)]; exact hq)]
      exact hR
    · obtain ⟨s', i1, i2, i3, i4, i5⟩ := ih (j + 1) (by omega) (pI s 147 (g0 + j) (mI (M.getD j 0))) (by rw [gI_pI, if_neg (by omega)]; exact h22) (fun i hi => by rw [gI_pI, if_neg (by omega)]; exact h144 i hi)
      refine ⟨s', fun R hR => eMo_copy_101 d _ _ _ _ _ _ _ _ _ _ ?_, fun k i hk => by rw [i2 k i hk, gI_pI, if_neg (by omega)], i3, fun i hi => by rw [i4 i (by omega), gI_pI, if_neg (by omega)], fun i h1 h2 h3 => ?_⟩
      · rw [h22, if_neg (show ¬ nI M.length ≤ nI j by rw [nI_leE (by omega) (by omega)]; omega), nI_addE, if_neg (show ¬ (4200 : Int32) ≤ nI (g0 + j) by rw [show (4200 : Int32) = nI 4200 from rfl, nI_leE (by omega) (by omega)]; exact hq), ldI_n (by omega) (by omega), h144 j (by omega), mI_nar _ (kBt_gd hb j), stI_n (by omega) (by omega), nI_add1]
        exact i1 R hR
      · by_cases e : i = j
        · rw [e, i4 (g0 + j) (by omega), gI_pI, if_pos ⟨rfl, rfl⟩]
        · exact i5 i (by omega) h2 h3
/-- rows of one file -/
theorem Mo_c82 (hw : yWf S) (hM0 : yMI S s0) (h00 : gI s0 67 0 = nI 0) (hR : yVk R) (w2 : mW 113 (yQ R) (yT R) (yN R) (yM R) (yL R) R.length s0) (hr2 : gI s0 113 31 = nI (yX R)) {kk v1 : Nat} (hk : kk < S.fs.length) (his : yIs (S.fs.getD kk yF0) n) (hv : (S.fs.getD kk yF0).2.1 = v1) (hR1 : yVk (yVd S.fs n v1)) (hg : yRj S.fs n (S.fs.getD kk yF0) (gs kk)) (ht : ∀ r, r < (S.fs.getD kk yF0).2.2.2.2.1 - 1 → yTd S.fs n R (S.fs.getD kk yF0) (gs kk) r (Ms (yRs S.fs n kk + r)) (bs (yRs S.fs n kk + r))) (hN : yRs S.fs n (kk + 1) ≤ N) (hNb : N ≤ 163840) (d : Nat) {x2 x3 : Int32} (nx : ∀ s, yGm s0 Ms bs (yRs S.fs n (kk + 1)) s → yMg s0 (fMo_copy_48 (d + 150) (nI n) x2 x3 (nI N) (nI (yCat Ms (yRs S.fs n (kk + 1))).length) (nI (kk + 1)) s) (yCg S m v R Ms bs N (yRs S.fs n (kk + 1)))) : ∀ j r, r + j = (S.fs.getD kk yF0).2.2.2.2.1 - 1 → ∀ s, yGm s0 Ms bs (yRs S.fs n kk + r) s → mW 91 (yQ (yVd S.fs n v1)) (yT (yVd S.fs n v1)) (yN (yVd S.fs n v1)) (yM (yVd S.fs n v1)) (yL (yVd S.fs n v1)) (yVd S.fs n v1).length s → gI s 91 31 = nI (yX (yVd S.fs n v1)) → gI s 67 31 = nI (256 * (S.fs.getD kk yF0).2.2.1 + gs kk r) → yMg s0 (fMo_copy_82 (d + 150) (nI n) x2 x3 (nI N) (nI (yCat Ms (yRs S.fs n kk + r)).length) (nI kk) (nI r) s) (yCg S m v R Ms bs N (yRs S.fs n kk + r)) := by
  have hL := hw.2.2.2.2
  have h40 := hL.1.1
  have hfi := hM0.2.2.2.2.2.1
  obtain ⟨a1, a2, a3, a4, a5, a6⟩ := hfi.2 kk hk
  obtain ⟨c1, c2, c3, c4, c5⟩ := hL.1.2 kk hk
  obtain ⟨r1, r2, r3, r4⟩ := yRow hL hk his
  have hbn := yBk_n (S.fs.getD kk yF0).2.2.2.1
  have hdl := (yLw_dl hL hk).1
  have hS := yRs_S his
  have hrow0 := his.2
  have h141 : ∀ s, xGm s0 s → gI s 141 kk = nI ((S.fs.getD kk yF0).2.2.2.2.1 - 1) := fun s hx => by
    rw [hx.1 141 kk (by omega) (by omega) (by omega) (by omega), a5]
    exact zI_pos (Nat.pos_of_ne_zero hrow0)
  -- the disk
  have hdz : ∀ i, i < 32768 → gI s0 143 i = mI (iM (gI s0 143 i)) := fun i hi => by
    obtain ⟨v, v1, v2⟩ := hM0.2.2.2.2.2.2.2 i hi
    rw [v2, iM_m v v1]
  have hdat : ∀ j, j < (S.fs.getD kk yF0).2.2.2.2.2.length → iM (gI s0 143 (256 * (S.fs.getD kk yF0).2.2.1 + j)) = (S.fs.getD kk yF0).2.2.2.2.2.getD j 0 := fun j hj => by rw [hM0.2.2.2.2.2.2.1 kk hk j hj, iM_m _ (kBt_gd r2 j)]
  have hlim : 256 * (S.fs.getD kk yF0).2.2.1 + (S.fs.getD kk yF0).2.2.2.2.2.length ≤ 32768 := by omega
  have hti : ∀ t : aT, (∀ i, gI t 143 i = gI s0 143 i) → mTi (fun j => iM (gI s0 143 j)) (256 * (S.fs.getD kk yF0).2.2.1 + (S.fs.getD kk yF0).2.2.2.2.2.length) t := fun t ht => ⟨hlim, fun j hj => by rw [ht j]; exact hdz j (by omega), fun j => iM_lt _⟩
  intro j
  induction j with
  | zero =>
    intro r hr s hi _ _ _
    have e : yRs S.fs n kk + r = yRs S.fs n (kk + 1) := by omega
    rw [e] at hi ⊢
    refine yMg_go (nx s hi) (fun z hz => eMo_copy_82 (d + 149) _ _ _ _ _ _ _ _ _ ?_)
    rw [ldI_n (by omega) (by omega), h141 s hi.1, if_pos (by rw [show r = (S.fs.getD kk yF0).2.2.2.2.1 - 1 by omega]; exact Int32.le_refl _)]
    refine eMo_copy_129 (d + 149) _ _ _ _ _ _ _ _ ?_
    rw [nI_add1]
    exact hz
  | succ j ih =>
    intro r hr s hi w1 h91 h31
    have hgN : yRs S.fs n kk + r < N := by omega
    have htd := ht r (by omega)
    have hbt : kBt (Ms (yRs S.fs n kk + r)) := yTd_bt hR r2 htd
    have ihr := ih (r + 1) (by omega)
    rw [show yRs S.fs n kk + (r + 1) = yRs S.fs n kk + r + 1 by omega] at ihr
    have hkw := kWq_sh (yB_bt r2) (B' := fun j => iM (gI s0 143 j)) (off := 256 * (S.fs.getD kk yF0).2.2.1) (n' := 256 * (S.fs.getD kk yF0).2.2.1 + (S.fs.getD kk yF0).2.2.2.2.2.length) hdat (Nat.le_refl _) 32 _ _ _ (hg.2.2 r (by omega))
    have hkt := kTr_sh (yB_bt r2) (B' := fun j => iM (gI s0 143 j)) (off := 256 * (S.fs.getD kk yF0).2.2.1) (n' := 256 * (S.fs.getD kk yF0).2.2.1 + (S.fs.getD kk yF0).2.2.2.2.2.length) hdat (Nat.le_refl _) 32 _ _ _ _ _ _ (hg.2.2 r (by omega)) htd
    rw [hv] at hkw hkt
    generalize hgg : yRs S.fs n kk + r = g at *
    generalize hMM : Ms g = M at *
    have hx := hi.1
    have ox : ∀ k i, ¬ (91 ≤ k ∧ k < 113) → k ≠ 144 → k ≠ 147 → ¬ (k = 67 ∧ (i = 22 ∨ i = 24 ∨ i = 25 ∨ i = 31 ∨ i = 32)) → gI s k i = gI s0 k i := hx.1
    have hrow := Mo_row (s := pI s 67 22 0) (hti _ (fun i => by rw [gI_pI, if_neg (by omega)]; exact ox 143 i (by omega) (by omega) (by omega) (by omega))) (mW_frg (fun k i a b => ⟨by rw [gI_pI, if_neg (by omega)], rfl⟩) w1) (mW_frg (fun k i a b => ⟨by rw [gI_pI, if_neg (by omega)]; exact ox k i (by omega) (by omega) (by omega) (by omega), hx.2.1 k i (by omega)⟩) w2) (kVe_mdx (yVk_g hR).2.1 (yVk_g hR).2.2.1) d (D := 32) (x := yX (yVd S.fs n v1)) (y := yX R) (by rw [gI_pI, if_neg (by omega)]; exact h91) (by rw [gI_pI, if_neg (by omega), ox 113 31 (by omega) (by omega) (by omega) (by omega)]; exact hr2) (by rw [gI_pI, if_pos ⟨rfl, rfl⟩]) (by rw [gI_pI, if_neg (by omega)]; exact h31) (yVk_r hR1).2.2.2.2 (yVk_r hR).2.2.2.2 hkw hkt
    rw [show 3 * 32 + 53 + d = d + 149 by omega] at hrow
    have go : ∀ z, cN (fMo_tellRow (d + 149) 4096 (pI s 67 22 0)) (kI fun v4 s3 => if 0 ≤ v4 then fMo_copy_101 (d + 150) (nI n) x2 x3 (nI N) (nI (yCat Ms g).length) (nI kk) (nI r) 0 s3 else rI v4 s3) = some z → fMo_copy_82 (d + 150) (nI n) x2 x3 (nI N) (nI (yCat Ms g).length) (nI kk) (nI r) s = some z := fun z hz => by
      refine eMo_copy_82 (d + 149) _ _ _ _ _ _ _ _ _ ?_
      rw [ldI_n (by omega) (by omega), h141 s hx, if_neg (show ¬ nI ((S.fs.getD kk yF0).2.2.2.2.1 - 1) ≤ nI r by rw [nI_leE (by omega) (by omega)]; omega), wI_eq]
      exact hz
    have eGf : yGf Ms bs (N - g) g = if (Ms g).length ≤ 4096 then (if bs g = true then yGf Ms bs (N - (g + 1)) (g + 1) else 20) else 31 := by
      rw [show N - g = N - (g + 1) + 1 by omega]
      rfl
    rw [hMM] at eGf
    have eCat : yCat Ms (g + 1) = yCat Ms g ++ M := by rw [← hMM]; rfl
    have lCat : (yCat Ms (g + 1)).length = (yCat Ms g).length + M.length := by rw [eCat]; exact List.length_append
    have tx : ∀ (a' : Nat) (W : List Nat), xGm s0 (oNn a' (oU W (pI (pI s 67 22 0) 67 32 (nI 4096)))) := fun a' W => ⟨fun k i b1 b2 b3 b4 => by
      rw [oNn_o (by omega), oU_I, if_neg (by omega), if_neg (by omega), gI_pI, if_neg (by omega), gI_pI, if_neg (by omega)]
      exact ox k i b1 b2 b3 b4, fun k i b1 => hx.2.1 k i b1, hx.2.2⟩
    have err : ∀ (kc a' : Nat) (W : List Nat), gI (mFl kc (oNn a' (oU W (pI (pI s 67 22 0) 67 32 (nI 4096))))) 67 0 = nI 0 ∧ yMI S (mFl kc (oNn a' (oU W (pI (pI s 67 22 0) 67 32 (nI 4096))))) ∧ xMo s0 (mFl kc (oNn a' (oU W (pI (pI s 67 22 0) 67 32 (nI 4096))))) := fun kc a' W => by
      have em : ∀ k i, ¬ (91 ≤ k ∧ k < 113) → k ≠ 144 → k ≠ 147 → ¬ (k = 67 ∧ (i = 22 ∨ i = 24 ∨ i = 25 ∨ i = 31 ∨ i = 32)) → gI (mFl kc (oNn a' (oU W (pI (pI s 67 22 0) 67 32 (nI 4096))))) k i = gI s0 k i := fun k i b1 b2 b3 b4 => by
        show gI (pI (pI (oNn a' (oU W (pI (pI s 67 22 0) 67 32 (nI 4096)))) 67 24 (nI kc)) 67 25 0) k i = _
        rw [gI_pI, if_neg (by omega), gI_pI, if_neg (by omega)]
        exact (tx a' W).1 k i b1 b2 b3 b4
      exact ⟨by rw [em 67 0 (by omega) (by omega) (by omega) (by omega)]; exact h00, xGm_MI hM0 em, ⟨fun k i hk => em k i (by omega) (by omega) (by omega) (by omega), by
        show s.2.2.2 + 1 ≤ _
        rw [hx.2.2]
        exact Nat.le_refl _, hx.2.1 149 0 (by omega)⟩⟩
    by_cases hq : M.length ≤ 4096
    · rw [if_pos hq] at hrow eGf
      by_cases hb : bs g = true
      · rw [if_pos hb] at hrow
        have hgl := hi.2.2.1
        obtain ⟨s', i1, i2, i3, i4, i5⟩ := Mo_c101 (x1 := nI n) (x2 := x2) (x3 := x3) (z5 := nI N) (z7 := nI kk) (z8 := nI r) (d + 149) hbt hq (g0 := (yCat Ms g).length) (by omega) M.length 0 (by omega) (oNn (256 * (S.fs.getD kk yF0).2.2.1 + gs kk (r + 1)) (oU M (pI (pI s 67 22 0) 67 32 (nI 4096)))) (by rw [oNn_o (by omega), oU_I, if_pos ⟨rfl, rfl⟩]) (fun i hi => by rw [oNn_o (by omega), oU_I, if_neg (by omega), if_pos ⟨rfl, hi⟩])
        have t147 : ∀ i, gI (oNn (256 * (S.fs.getD kk yF0).2.2.1 + gs kk (r + 1)) (oU M (pI (pI s 67 22 0) 67 32 (nI 4096)))) 147 i = gI s 147 i := fun i => by rw [oNn_o (by omega), oU_I, if_neg (by omega), if_neg (by omega), gI_pI, if_neg (by omega), gI_pI, if_neg (by omega)]
        have t91 : ∀ k i, 91 ≤ k → k < 113 → gI s' k i = gI s k i ∧ gL s' k i = gL s k i := fun k i b1 b2 => ⟨by rw [i2 k i (by omega), oNn_o (by omega), oU_I, if_neg (by omega), if_neg (by omega), gI_pI, if_neg (by omega), gI_pI, if_neg (by omega)], by
          show s'.2.1 k i = s.2.1 k i
          rw [i3]
          rfl⟩
        have s'22 : gI s' 67 22 = nI M.length := by rw [i2 67 22 (by omega), oNn_o (by omega), oU_I, if_pos ⟨rfl, rfl⟩]
        have nx3 := ihr s' ⟨⟨fun k i b1 b2 b3 b4 => by rw [i2 k i b3]; exact (tx _ _).1 k i b1 b2 b3 b4, fun k i b1 => by
          show s'.2.1 k i = _
          rw [i3]
          exact hx.2.1 k i b1, by rw [i3]; exact hx.2.2⟩, fun i hi1 hi2 => ?_, by omega, fun i hi1 => ?_⟩ (mW_frg (fun k i b1 b2 => t91 k i b1 b2) w1) (by rw [(t91 91 31 (by omega) (by omega)).1]; exact h91) (by rw [i2 67 31 (by omega), oNn_at])
        · rw [yCg_S hgN (by rw [hMM]; exact hq) hb]
          refine yMg_go nx3 (fun z hz => go z ?_)
          rw [hrow, cN_I, if_pos (by decide)]
          refine i1 z (eMo_copy_122 (d + 149) _ _ _ _ _ _ _ _ _ ?_)
          rw [s'22, nI_addE, nI_add1, ← lCat]
          exact hz
        · by_cases hlt : i < (yCat Ms g).length
          · rw [i4 i (by omega), t147, hi.2.1 i hlt hi2, eCat, getD_l hlt]
          · have e5 := i5 (i - (yCat Ms g).length) (by omega) (by omega) (by omega)
            rw [show (yCat Ms g).length + (i - (yCat Ms g).length) = i by omega] at e5
            rw [e5, eCat, getD_r (by omega)]
        · by_cases e : i = g
          · rw [e, hMM]; exact ⟨hq, hb⟩
          · exact hi.2.2.2 i (by omega)
      · rw [if_neg hb] at hrow eGf
        obtain ⟨a', L', hrow⟩ := hrow
        have ev : yCg S m v R Ms bs N g = (0, -20, S) := by
          unfold yCg
          rw [eGf, if_neg (by decide)]
          rfl
        rw [ev]
        refine ⟨_, go _ ?_, err 20 a' L'⟩
        rw [hrow, cN_I, if_neg (by decide)]
        rfl
    · rw [if_neg hq] at hrow eGf
      obtain ⟨a', L', hrow⟩ := hrow
      have ev : yCg S m v R Ms bs N g = (0, -31, S) := by
        unfold yCg
        rw [eGf, if_neg (by decide)]
        rfl
      rw [ev]
      refine ⟨_, go _ ?_, err 31 a' L'⟩
      rw [hrow, cN_I, if_neg (by decide)]
      rfl
end
