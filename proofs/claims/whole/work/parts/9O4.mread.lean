/-! read: the reference -/
section
variable {S : yS} {s : aT} {L : List yFi}
/-- letters come over from what was made -/
def oPo (L : List Nat) (j : Nat) (t : aT) : aT := (fun k i => if k = 136 ∧ i < j then mI (L.getD i 0) else t.1 k i, t.2)
theorem oPo_I {L : List Nat} {j k i : Nat} : gI (oPo L j s) k i = if k = 136 ∧ i < j then mI (L.getD i 0) else gI s k i := rfl
theorem oPo_o {L : List Nat} {j k i : Nat} (h : k ≠ 136) : gI (oPo L j s) k i = gI s k i := by rw [oPo_I, if_neg (fun e => h e.1)]
theorem oPo_s {L : List Nat} {j : Nat} : pI (oPo L j s) 136 j (mI (L.getD j 0)) = oPo L (j + 1) s := by
  refine aT_ext (fun k i => ?_) (fun _ _ => rfl) rfl
  rw [gI_pI, oPo_I, oPo_I]
  by_cases h : k = 136 ∧ i = j
  · rw [if_pos h, if_pos (by omega), h.2]
  · rw [if_neg h]
    by_cases h2 : k = 136 ∧ i < j
    · rw [if_pos h2, if_pos (by omega)]
    · rw [if_neg h2, if_neg (by omega)]
theorem oPo_0 {L : List Nat} : oPo L 0 s = s := by
  refine aT_ext (fun k i => ?_) (fun _ _ => rfl) rfl
  rw [oPo_I, if_neg (by omega)]
theorem Mo_r136 (d : Nat) {L : List Nat} (hl : L.length ≤ 4096) (hb : kBt L) (h10 : gI s 67 10 = nI L.length) (h144 : ∀ i, i < L.length → gI s 144 i = mI (L.getD i 0)) : ∀ k j, j + k = L.length → fMo_read_136 (d + 1) (nI j) (oPo L j s) = rI (nI L.length) (oPo L L.length s) := by
  intro k
  induction k with
  | zero =>
    intro j hj
    refine eMo_read_136 d _ _ _ ?_
    rw [oPo_o (by omega), h10, if_pos (show nI L.length ≤ nI j by rw [nI_leE (by omega) (by omega)]; omega), show j = L.length by omega]
    rfl
  | succ k ih =>
    intro j hj
    refine eMo_read_136 d _ _ _ ?_
    rw [oPo_o (by omega), h10, if_neg (show ¬ nI L.length ≤ nI j by rw [nI_leE (by omega) (by omega)]; omega), ldI_n (by omega) (by omega), oPo_o (by omega), h144 j (by omega), mI_nar _ (kBt_gd hb j), stI_n (by omega) (by omega), oPo_s, nI_add1]
    exact ih (j + 1) (by omega)
/-- the reference goes to the file that has the row -/
theorem Mo_rd40 (hL : yLw L) (hl : mFi L s) (d : Nat) {n ii kk : Nat} {x2 : Int32} (hn : n < 4) (hkk : kk < L.length) (hle : ∀ j, j ≤ kk → yRs L n j ≤ ii) (hii : ii < 2147483648) : ∀ k j, j + k = kk → ∀ r, fMo_read_40 (d + 1) (nI n) x2 (nI kk) (nI (ii - yRs L n kk)) s = some r → fMo_read_40 (d + 1) (nI n) x2 (nI j) (nI (ii - yRs L n j)) s = some r := by
  have h40 := hL.1.1
  intro k
  induction k with
  | zero =>
    intro j hj r hr
    rw [show j = kk by omega]
    exact hr
  | succ k ih =>
    intro j hj r hr
    obtain ⟨a1, a2, a3, a4, a5, a6⟩ := hl.2 j (by omega)
    obtain ⟨b1, b2, b3, b4, b5⟩ := hL.1.2 j (by omega)
    have hl1 := hle j (by omega)
    have hl2 := hle (j + 1) (by omega)
    have e : yRs L n (j + 1) = yRs L n j + (if yIs (L.getD j yF0) n then (L.getD j yF0).2.2.2.2.1 - 1 else 0) := rfl
    have nx := ih (j + 1) (by omega) r hr
    have g76 : ∀ z, nI (ii - yRs L n (j + 1)) = z → fMo_read_76 (d + 1) (nI n) x2 (nI j) z s = some r := fun z hz => by
      refine eMo_read_76 d _ _ _ _ _ _ ?_
      rw [nI_add1, ← hz]
      exact nx
    have eo : (nI (L.getD j yF0).1 = nI n) = ((L.getD j yF0).1 = n) := nI_eqE (by omega) (by omega)
    have ez : (zI (L.getD j yF0).2.2.2.2.1 < 0) = ((L.getD j yF0).2.2.2.2.1 = 0) := zI_lt0 (by omega)
    refine eMo_read_40 d _ _ _ _ _ _ ?_
    rw [ldI_n (by omega) (by omega), a1]
    have g57 : fMo_read_57 (d + 1) (nI n) x2 (nI j) (nI (ii - yRs L n j)) s = some r := by
      refine eMo_read_57 d _ _ _ _ _ _ ?_
      rw [ldI_n (by omega) (by omega), a1]
      by_cases h1 : (L.getD j yF0).1 = n
      · rw [if_neg (fun x => x (by rw [eo]; exact h1)), ldI_n (by omega) (by omega), a5]
        by_cases h2 : (L.getD j yF0).2.2.2.2.1 = 0
        · rw [if_pos (by rw [ez]; exact h2)]
          refine eMo_read_75 d _ _ _ _ _ _ (g76 _ ?_)
          rw [e, if_neg (fun x => x.2 h2), Nat.add_zero]
        · rw [if_neg (by rw [ez]; exact h2), ldI_n (by omega) (by omega), a5, zI_pos (Nat.pos_of_ne_zero h2)]
          rw [if_pos ⟨h1, h2⟩] at e
          rw [nI_sub (by omega)]
          refine g76 _ ?_
          congr 1
          omega
      · rw [if_pos (fun x => h1 (by rw [eo] at x; exact x))]
        refine eMo_read_75 d _ _ _ _ _ _ (g76 _ ?_)
        rw [e, if_neg (fun x => h1 x.1), Nat.add_zero]
    by_cases h1 : (L.getD j yF0).1 = n
    · rw [if_neg (fun x => x (by rw [eo]; exact h1)), ldI_n (by omega) (by omega), a5]
      by_cases h2 : (L.getD j yF0).2.2.2.2.1 = 0
      · rw [if_pos (by rw [ez]; exact h2)]
        exact g57
      · rw [if_neg (by rw [ez]; exact h2), ldI_n (by omega) (by omega), a5, zI_pos (Nat.pos_of_ne_zero h2)]
        rw [if_pos ⟨h1, h2⟩] at e
        rw [if_neg (show ¬ nI (ii - yRs L n j) < nI ((L.getD j yF0).2.2.2.2.1 - 1) by rw [nI_ltE (by omega) (by omega)]; omega)]
        exact g57
    · rw [if_pos (fun x => h1 (by rw [eo] at x; exact x))]
      exact g57
/-- rows are skipped -/
theorem Mo_skl {q : kP} {T : Nat → Nat → Nat} {N : Nat → Int} {m l n0 x lim : Nat} {B : Nat → Nat} {t : aT} (hi : mTi B lim t) (hw : mW 91 q T N m l n0 t) (hx : x < q.1 1) (h31 : gI t 91 31 = nI x) {C : List Nat} {st : Nat} (hC : kBt C) (hs : ∀ j, j < C.length → B (st + j) = C.getD j 0) (hn : st + C.length ≤ lim) {k : Nat} {g : Nat → Nat} (hg : yRg C q x k g) (d : Nat) {rest : Nat} (hrest : rest ≤ k) (hsm : rest < 2147483648) : ∀ j r, r + j = rest → ∀ R, fMo_read_104 (d + 34) (nI rest) (nI rest) (oNn (st + g rest) t) = some R → fMo_read_104 (d + 34) (nI rest) (nI r) (oNn (st + g r) t) = some R := by
  intro j
  induction j with
  | zero =>
    intro r hr R hR
    rw [show r = rest by omega]
    exact hR
  | succ j ih =>
    intro r hr R hR
    have hkw := kWq_sh (yB_bt hC) (B' := B) (off := st) hs hn 32 x (g r) (g (r + 1)) (hg.2.2 r (by omega))
    have hsk := Mo_sk hi hw 32 d x (st + g r) (st + g (r + 1)) hx hkw
    rw [show 32 + 1 + d = d + 33 by omega] at hsk
    refine eMo_read_104 (d + 33) _ _ _ _ ?_
    rw [if_neg (show ¬ nI rest ≤ nI r by rw [nI_leE (by omega) (by omega)]; omega), oNn_o (by omega), h31, hsk, cG_V, nI_add1]
    exact ih (r + 1) (by omega) R hR
theorem Mo_wir (d : Nat) {i : Int32} {k : Nat} (hk : k < 2147483648) : fMo_within d i 0 (nI k - 1) s = rI (uB (decide (¬ i < 0 ∧ i < nI k))) s := by
  rw [Mo_wi]
  congr 2
  have e : (¬ i < 0 ∧ ¬ nI k - 1 < i) ↔ (¬ i < 0 ∧ i < nI k) := by
    constructor
    · intro h
      refine ⟨h.1, ?_⟩
      obtain ⟨e1, e2⟩ := nI_tn h.1
      have h2 := h.2
      by_cases h0 : k = 0
      · exfalso
        subst h0
        rw [show nI 0 - 1 = (-1 : Int32) from rfl, e1, Int32.lt_iff_toInt_lt, nI_ti (by omega)] at h2
        have : (-1 : Int32).toInt = -1 := rfl
        omega
      · rw [show (1 : Int32) = nI 1 from rfl, nI_sub (by omega), e1, nI_ltE (by omega) (by omega)] at h2
        rw [e1, nI_ltE (by omega) (by omega)]
        omega
    · intro h
      refine ⟨h.1, ?_⟩
      obtain ⟨e1, e2⟩ := nI_tn h.1
      have h2 := h.2
      rw [e1, nI_ltE (by omega) (by omega)] at h2
      rw [show (1 : Int32) = nI 1 from rfl, nI_sub (by omega), e1, nI_ltE (by omega) (by omega)]
      omega
  by_cases h : ¬ i < 0 ∧ i < nI k
  · rw [decide_eq_true h, decide_eq_true (e.mpr h)]
  · rw [decide_eq_false h, decide_eq_false (fun x => h (e.mp x))]
/-- read, when there is such a row -/
theorem Mo_rdc (hw : yWf S) (h : yMI S s) (h0 : gI s 67 0 = nI 0) (d : Nat) {n v ii : Nat} (hn : n < 4) (hvf : yVf S.fs n v ≠ 0) (hlt : ii < yRs S.fs n S.fs.length) {g : Nat → Nat} {M : List Nat} {b : Bool} (hg : yRj S.fs n (S.fs.getD (yFo S.fs n ii - 1) yF0) g) (hM : yTd S.fs n (yVd S.fs n v) (S.fs.getD (yFo S.fs n ii - 1) yF0) g (ii - yRs S.fs n (yFo S.fs n ii - 1)) M b) : ∃ s', fMo_read_40 (d + 150) (nI n) (nI v) 0 (nI ii) s = rI (yRo S M b).2.1 s' ∧ gI s' 67 0 = nI 0 ∧ yMI (yRo S M b).2.2 s' ∧ xMo s s' := by
  have hL := hw.2.2.2.2
  have h40 := hL.1.1
  have hrs := yRs_40 hL n (Nat.le_refl S.fs.length)
  have hfi := h.2.2.2.2.2.1
  have hfne := yFo_0.mpr hlt
  obtain ⟨f1, f2, f3, f4⟩ := yFo_at hfne
  have hle : ∀ j, j ≤ yFo S.fs n ii - 1 → yRs S.fs n j ≤ ii := fun j hj => by
    have := yRs_mo (L := S.fs) n (yFo S.fs n ii - 1 - j) j
    rw [show j + (yFo S.fs n ii - 1 - j) = yFo S.fs n ii - 1 by omega] at this
    omega
  generalize yFo S.fs n ii - 1 = kk at *
  obtain ⟨r1, r2, r3, r4⟩ := yRow hL f1 f2
  have e : yRs S.fs n (kk + 1) = yRs S.fs n kk + (if yIs (S.fs.getD kk yF0) n then (S.fs.getD kk yF0).2.2.2.2.1 - 1 else 0) := rfl
  rw [if_pos f2] at e
  obtain ⟨a1, a2, a3, a4, a5, a6⟩ := hfi.2 kk f1
  obtain ⟨b1, b2, b3, b4, b5⟩ := hL.1.2 kk f1
  have hbn := yBk_n (S.fs.getD kk yF0).2.2.2.1
  have hdl := (yLw_dl hL f1).1
  obtain ⟨s1, q1, q2, q3, q4, _⟩ := Mo_rdv hL h r1 (.inl rfl) (d + 90)
  have hs1 : yMI S s1 := yMI_fr (fun k i hk hn => (q2 k i (by
    by_cases e : 91 ≤ k ∧ k < 113
    · exact absurd (show xTm k i by unfold xTm; omega) hn
    · omega)).1) h
  obtain ⟨s2, p1, p2, p3, p4, _⟩ := Mo_rdv hL hs1 hvf (.inr rfl) (d + 90)
  have hs2 : yMI S s2 := yMI_fr (fun k i hk hn => (p2 k i (by
    by_cases e : 113 ≤ k ∧ k < 135
    · exact absurd (show xTm k i by unfold xTm; omega) hn
    · omega)).1) hs1
  have sc : s2.2.2.2 = s.2.2.2 := by rw [Mo_rdvU hL hs1 hvf (.inr rfl) (d + 90) p1, Mo_rdvU hL h r1 (.inl rfl) (d + 90) q1]
  have sg : gL s2 149 0 = gL s 149 0 := (p2 149 0 (by omega)).2.trans (q2 149 0 (by omega)).2
  have w1 : mW 91 (yQ (yVd S.fs n (S.fs.getD kk yF0).2.1)) (yT (yVd S.fs n (S.fs.getD kk yF0).2.1)) (yN (yVd S.fs n (S.fs.getD kk yF0).2.1)) (yM (yVd S.fs n (S.fs.getD kk yF0).2.1)) (yL (yVd S.fs n (S.fs.getD kk yF0).2.1)) (yVd S.fs n (S.fs.getD kk yF0).2.1).length s2 := mW_frg (fun k i a b => p2 k i (by omega)) q4
  have o2 : ∀ k i, k < 91 ∨ 135 ≤ k → gI s2 k i = gI s k i := fun k i hk => by rw [(p2 k i (by omega)).1, (q2 k i (by omega)).1]
  have c1 := (hL.2.2.1 _ ((yVf_iff hL).2 r1).1 ((yVf_iff hL).2 r1).2.1.2).1
  have c2 := (hL.2.2.1 _ ((yVf_iff hL).2 hvf).1 ((yVf_iff hL).2 hvf).2.1.2).1
  have hbt := yTd_bt c2 r2 hM
  -- the disk
  have hdz : ∀ i, i < 32768 → gI s2 143 i = mI (iM (gI s 143 i)) := fun i hi => by
    obtain ⟨v, v1, v2⟩ := h.2.2.2.2.2.2.2 i hi
    rw [o2 143 i (by omega), v2, iM_m v v1]
  have hdat : ∀ j, j < (S.fs.getD kk yF0).2.2.2.2.2.length → iM (gI s 143 (256 * (S.fs.getD kk yF0).2.2.1 + j)) = (S.fs.getD kk yF0).2.2.2.2.2.getD j 0 := fun j hj => by rw [h.2.2.2.2.2.2.1 kk f1 j hj, iM_m _ (kBt_gd r2 j)]
  have hlim : 256 * (S.fs.getD kk yF0).2.2.1 + (S.fs.getD kk yF0).2.2.2.2.2.length ≤ 32768 := by omega
  have hti : ∀ t : aT, (∀ i, gI t 143 i = gI s2 143 i) → mTi (fun j => iM (gI s 143 j)) (256 * (S.fs.getD kk yF0).2.2.1 + (S.fs.getD kk yF0).2.2.2.2.2.length) t := fun t ht => ⟨hlim, fun j hj => by rw [ht j]; exact hdz j (by omega), fun j => iM_lt _⟩
  have hx1 := (yVk_r c1).2.2.2.2
  have hkw := kWq_sh (yB_bt r2) (B' := fun j => iM (gI s 143 j)) (off := 256 * (S.fs.getD kk yF0).2.2.1) (n' := 256 * (S.fs.getD kk yF0).2.2.1 + (S.fs.getD kk yF0).2.2.2.2.2.length) hdat (Nat.le_refl _) 32 _ _ _ (hg.2.2 (ii - yRs S.fs n kk) (by omega))
  have hkt := kTr_sh (yB_bt r2) (B' := fun j => iM (gI s 143 j)) (off := 256 * (S.fs.getD kk yF0).2.2.1) (n' := 256 * (S.fs.getD kk yF0).2.2.1 + (S.fs.getD kk yF0).2.2.2.2.2.length) hdat (Nat.le_refl _) 32 _ _ _ _ _ _ (hg.2.2 (ii - yRs S.fs n kk) (by omega)) hM
  have hsk := Mo_skl (t := s2) (hti s2 (fun _ => rfl)) w1 hx1 (by rw [(p2 91 31 (by omega)).1]; exact q3) r2 (st := 256 * (S.fs.getD kk yF0).2.2.1) hdat (Nat.le_refl _) hg (d + 116) (rest := ii - yRs S.fs n kk) (by omega) (by omega) (ii - yRs S.fs n kk) 0 (by omega)
  rw [hg.1, Nat.add_zero] at hsk
  have hm40 := Mo_rd40 hL hfi (d + 149) (x2 := nI v) hn f1 hle (by omega) kk 0 (by omega)
  have e00 : yRs S.fs n 0 = 0 := rfl
  rw [e00, Nat.sub_zero] at hm40
  have elt : (nI (ii - yRs S.fs n kk) < nI ((S.fs.getD kk yF0).2.2.2.2.1 - 1)) = True := by
    rw [nI_ltE (by omega) (by omega)]
    exact eq_true (by omega)
  have hne := f2.2
  have go : ∀ R, fMo_read_104 (d + 150) (nI (ii - yRs S.fs n kk)) (nI (ii - yRs S.fs n kk)) (oNn (256 * (S.fs.getD kk yF0).2.2.1 + g (ii - yRs S.fs n kk)) s2) = some R → fMo_read_40 (d + 150) (nI n) (nI v) 0 (nI ii) s = some R := fun R hR => by
    refine hm40 R (eMo_read_40 (d + 149) _ _ _ _ _ _ ?_)
    rw [ldI_n (by omega) (by omega), a1, if_neg (fun x => x (by rw [f2.1])), ldI_n (by omega) (by omega), a5, if_neg (show ¬ zI (S.fs.getD kk yF0).2.2.2.2.1 < 0 by rw [zI_lt0 (by omega)]; exact hne), ldI_n (by omega) (by omega), a5, zI_pos (Nat.pos_of_ne_zero hne), if_pos (of_eq_true elt), ldI_n (by omega) (by omega), a2, show d + 149 = d + 90 + 59 by omega, q1, cG_V, p1, cG_V, ldI_n (by omega) (by omega), o2 139 kk (by omega), a3, wI_eq, show (256 : Int32) = nI 256 from rfl, nI_mulE]
    exact hsk R hR
  generalize 256 * (S.fs.getD kk yF0).2.2.1 = st at *
  generalize hE : pI (pI (oNn (st + g (ii - yRs S.fs n kk)) s2) 67 22 0) 67 10 0 = u at *
  have ou : ∀ k i, ¬ (k = 67 ∧ (i = 22 ∨ i = 10 ∨ i = 31)) → gI u k i = gI s2 k i := fun k i hk => by
    rw [← hE, gI_pI, if_neg (by omega), gI_pI, if_neg (by omega), oNn_o (by omega)]
  have uL : ∀ k i, gL u k i = gL s2 k i := fun k i => by rw [← hE]; rfl
  have uc : u.2.2.2 = s2.2.2.2 := by rw [← hE]; rfl
  have hrow := Mo_row (s := u) (hti u (fun i => ou 143 i (by omega))) (mW_frg (fun k i a b => ⟨ou k i (by omega), uL k i⟩) w1) (mW_frg (fun k i a b => ⟨ou k i (by omega), uL k i⟩) p4) (kVe_mdx (yVk_g c2).2.1 (yVk_g c2).2.2.1) d (D := 32) (x := yX (yVd S.fs n (S.fs.getD kk yF0).2.1)) (y := yX (yVd S.fs n v)) (by rw [ou 91 31 (by omega), (p2 91 31 (by omega)).1]; exact q3) (by rw [ou 113 31 (by omega)]; exact p3) (by rw [← hE, gI_pI, if_neg (by omega), gI_pI, if_pos ⟨rfl, rfl⟩]) (by rw [← hE, gI_pI, if_neg (by omega), gI_pI, if_neg (by omega), oNn_at]) hx1 (yVk_r c2).2.2.2.2 hkw hkt
  rw [show 3 * 32 + 53 + d = d + 149 by omega] at hrow
  have go2 : ∀ R, cN (fMo_tellRow (d + 149) 4096 u) (kI fun v4 s3 => if 0 ≤ v4 then wI s3 67 10 (gI s3 67 22) (fun s5 => fMo_read_136 (d + 150) 0 s5) else rI v4 s3) = some R → fMo_read_40 (d + 150) (nI n) (nI v) 0 (nI ii) s = some R := fun R hR => by
    refine go R (eMo_read_104 (d + 149) _ _ _ _ ?_)
    rw [if_pos (show nI (ii - yRs S.fs n kk) ≤ nI (ii - yRs S.fs n kk) by rw [nI_leE (by omega) (by omega)]; omega), wI_eq, wI_eq, hE]
    exact hR
  -- what is left behind
  have fin : ∀ (t : aT) (W : List Nat), gI t 67 10 = nI W.length → (∀ i, i < W.length → gI t 136 i = mI (W.getD i 0)) → (∀ k i, ¬ (k = 67 ∧ (i = 22 ∨ i = 10 ∨ i = 31 ∨ i = 32 ∨ i = 24 ∨ i = 25)) → k ≠ 144 → k ≠ 136 → gI t k i = gI s2 k i) → t.2.2.2 ≤ s2.2.2.2 + 1 → gL t 149 0 = gL s2 149 0 → gI t 67 0 = nI 0 ∧ yMI (S.sou W) t ∧ xMo s t := fun t W h1 h2 h3 h4 h5 => by
    refine ⟨by rw [h3 67 0 (by omega) (by omega) (by omega), o2 67 0 (by omega)]; exact h0, yMI_ch (s := s2) (tp := S.tp) (pl := S.pl) (ou := W) (pc := S.pc) (fun k i hk hn => h3 k i (fun e => hn (by unfold xTn xTm; omega)) (fun e => hn (by unfold xTn xTm; omega)) (fun e => hn (by unfold xTn xTm; omega))) ⟨by rw [h3 67 2 (by omega) (by omega) (by omega)]; exact hs2.2.1.1, fun i hi => by rw [h3 68 i (by omega) (by omega) (by omega)]; exact hs2.2.1.2 i hi⟩ ⟨by rw [h3 67 8 (by omega) (by omega) (by omega)]; exact hs2.2.2.1.1, fun i hi => by rw [h3 135 i (by omega) (by omega) (by omega)]; exact hs2.2.2.1.2 i hi⟩ ⟨h1, h2⟩ (by rw [h3 67 3 (by omega) (by omega) (by omega)]; exact hs2.1.1) hs2, fun k i hk => by rw [h3 k i (by omega) (by omega) (by omega), o2 k i (by omega)], by rw [← sc]; exact h4, by rw [h5, sg]⟩
  have u10 : gI u 67 10 = 0 := by rw [← hE, gI_pI, if_pos ⟨rfl, rfl⟩]
  have err : ∀ (kc a' : Nat) (L' : List Nat), gI (mFl kc (oNn a' (oU L' (pI u 67 32 (nI 4096))))) 67 10 = nI ([] : List Nat).length ∧ (∀ k i, ¬ (k = 67 ∧ (i = 22 ∨ i = 10 ∨ i = 31 ∨ i = 32 ∨ i = 24 ∨ i = 25)) → k ≠ 144 → k ≠ 136 → gI (mFl kc (oNn a' (oU L' (pI u 67 32 (nI 4096))))) k i = gI s2 k i) := fun kc a' L' => by
    have em : ∀ k i, ¬ (k = 67 ∧ (i = 24 ∨ i = 25)) → gI (mFl kc (oNn a' (oU L' (pI u 67 32 (nI 4096))))) k i = gI (oNn a' (oU L' (pI u 67 32 (nI 4096)))) k i := fun k i hk => by
      show gI (pI (pI (oNn a' (oU L' (pI u 67 32 (nI 4096)))) 67 24 (nI kc)) 67 25 0) k i = _
      rw [gI_pI, if_neg (by omega), gI_pI, if_neg (by omega)]
    refine ⟨?_, fun k i h1 h2 h3 => ?_⟩
    · rw [em 67 10 (by omega), oNn_o (by omega), oU_I, if_neg (by omega), if_neg (by omega), gI_pI, if_neg (by omega), u10]
      rfl
    · rw [em k i (by omega), oNn_o (by omega), oU_I, if_neg (by omega), if_neg (by omega), gI_pI, if_neg (by omega), ou k i (by omega)]
  unfold yRo
  by_cases hq : M.length ≤ 4096
  · rw [if_pos hq] at hrow ⊢
    cases b with
    | true =>
      rw [if_pos rfl] at hrow ⊢
      have g22 : gI (oNn (st + g (ii - yRs S.fs n kk + 1)) (oU M (pI u 67 32 (nI 4096)))) 67 22 = nI M.length := by rw [oNn_o (by omega), oU_I, if_pos ⟨rfl, rfl⟩]
      have h136 := Mo_r136 (s := pI (oNn (st + g (ii - yRs S.fs n kk + 1)) (oU M (pI u 67 32 (nI 4096)))) 67 10 (nI M.length)) (d + 149) hq hbt (by rw [gI_pI, if_pos ⟨rfl, rfl⟩]) (fun i hi => by rw [gI_pI, if_neg (by omega), oNn_o (by omega), oU_I, if_neg (by omega), if_pos ⟨rfl, hi⟩]) M.length 0 (by omega)
      rw [oPo_0] at h136
      obtain ⟨z1, z2, z3⟩ := fin (oPo M M.length (pI (oNn (st + g (ii - yRs S.fs n kk + 1)) (oU M (pI u 67 32 (nI 4096)))) 67 10 (nI M.length))) M (by rw [oPo_o (by omega), gI_pI, if_pos ⟨rfl, rfl⟩]) (fun i hi => by rw [oPo_I, if_pos ⟨rfl, hi⟩]) (fun k i h1 h2 h3 => by rw [oPo_o h3, gI_pI, if_neg (by omega), oNn_o (by omega), oU_I, if_neg (by omega), if_neg (by omega), gI_pI, if_neg (by omega), ou k i (by omega)]) (by show u.2.2.2 ≤ _; omega) (uL 149 0)
      refine ⟨_, go2 _ ?_, z1, z2, z3⟩
      rw [hrow, cN_I, if_pos (by decide), wI_eq, g22]
      exact h136
    | false =>
      rw [if_neg (by decide)] at hrow ⊢
      obtain ⟨a', L', hrow⟩ := hrow
      obtain ⟨z1, z2, z3⟩ := fin (mFl 20 (oNn a' (oU L' (pI u 67 32 (nI 4096))))) [] (err 20 a' L').1 (fun i hi => absurd hi (Nat.not_lt_zero _)) (err 20 a' L').2 (by show u.2.2.2 + 1 ≤ _; omega) (uL 149 0)
      refine ⟨_, go2 _ ?_, z1, z2, z3⟩
      rw [hrow, cN_I, if_neg (by decide)]
      rfl
  · rw [if_neg hq] at hrow ⊢
    obtain ⟨a', L', hrow⟩ := hrow
    obtain ⟨z1, z2, z3⟩ := fin (mFl 31 (oNn a' (oU L' (pI u 67 32 (nI 4096))))) [] (err 31 a' L').1 (fun i hi => absurd hi (Nat.not_lt_zero _)) (err 31 a' L').2 (by show u.2.2.2 + 1 ≤ _; omega) (uL 149 0)
    refine ⟨_, go2 _ ?_, z1, z2, z3⟩
    rw [hrow, cN_I, if_neg (by decide)]
    rfl
theorem yRo_0 {M : List Nat} {b : Bool} : (yRo S M b).1 = 0 := by
  unfold yRo
  split
  · split <;> rfl
  · rfl
theorem M_read (hw : yWf S) (h : yMI S s) (d : Nat) (x w i : Int32) {r : Nat × Int32 × yS} (hr : y_read x w i S r) : yMr s (fMo_read (d + 150) x w i s) r := by
  have hL := hw.2.2.2.2
  have hfi := h.2.2.2.2.2.1
  have hy : ∀ v, yMI S (pI s 67 0 v) := fun v => yMI_0 h
  have bad : (∀ R, fMo_read_23 (d + 150) x w i 1 s = some R → fMo_read (d + 150) x w i s = some R) → yMr s (fMo_read (d + 150) x w i s) (1, 0, S) := fun go => by
    refine ⟨pI s 67 0 (nI 1), go _ (eMo_read_23 (d + 149) _ _ _ _ _ _ ?_), by rw [gI_pI, if_pos ⟨rfl, rfl⟩], hy _, xMo_0⟩
    have e0 : fMo_refused (d + 149) 1 0 s = rI 1 (pI s 67 0 (nI 1)) := Mo_ref (d + 149) (a := true) (b := false)
    rw [e0, cG_I, if_neg (by decide)]
    rfl
  have e0 : fMo_refused (d + 149) 0 0 s = rI 0 (pI s 67 0 (nI 0)) := Mo_ref (d + 149) (a := false) (b := false)
  have i1 : fMo_isSubject (d + 149) x s = rI (uB (decide (¬ yNo x 3))) s := Mo_isS (d + 148)
  unfold y_read at hr
  by_cases hx : yNo x 3
  · rw [if_pos hx] at hr
    rw [hr]
    refine bad (fun R hR => eMo_read (d + 149) _ _ _ _ _ ?_)
    rw [i1, cG_I, show decide (¬ yNo x 3) = false from decide_eq_false (fun e => e hx), if_pos (by decide)]
    exact eMo_read_20 (d + 149) _ _ _ _ _ hR
  · rw [if_neg hx] at hr
    by_cases hd : S.dn = true
    · rw [if_pos hd] at hr
      rw [hr]
      refine ⟨pI s 67 0 (nI 0), eMo_read (d + 149) _ _ _ _ _ ?_, by rw [gI_pI, if_pos ⟨rfl, rfl⟩], hy _, xMo_0⟩
      rw [i1, cG_I, show decide (¬ yNo x 3) = true from decide_eq_true hx, if_neg (by decide), h.1.2, if_pos (by rw [hd]; decide)]
      refine eMo_read_22 (d + 149) _ _ _ _ _ (eMo_read_23 (d + 149) _ _ _ _ _ _ ?_)
      rw [e0, cG_I, if_pos rfl, (hy _).1.2, if_neg (by rw [hd]; decide)]
      rfl
    · rw [if_neg hd] at hr
      have hd0 : S.dn = false := by simpa using hd
      obtain ⟨n, n1, rfl⟩ := yNo_n (by omega) hx
      have hrs := yRs_40 hL n (Nat.le_refl S.fs.length)
      rw [nI_ti2 (by omega)] at hr
      have go : ∀ R, cG (fMo_isVersion (d + 149) (nI n) w s) (kI fun v4 s3 => if v4 = 0 then fMo_read_20 (d + 150) (nI n) w i s3 else cG (fMo_rows (d + 149) (nI n) s3) (kI fun v6 s5 => cG (fMo_within (d + 149) i 0 (v6 - 1) s5) (kI fun v8 s7 => if ¬ v8 = 0 then fMo_read_22 (d + 150) (nI n) w i s7 else fMo_read_20 (d + 150) (nI n) w i s7))) = some R → fMo_read (d + 150) (nI n) w i s = some R := fun R hR => by
        refine eMo_read (d + 149) _ _ _ _ _ ?_
        rw [i1, cG_I, show decide (¬ yNo (nI n) 3) = true from decide_eq_true hx, if_neg (by decide), h.1.2, if_neg (by rw [hd0]; decide)]
        exact hR
      have iv : fMo_isVersion (d + 149) (nI n) w s = rI (uB (decide (yVa S.fs n w))) s := Mo_isv hL hfi (d + 147) (by omega)
      by_cases hv : yVa S.fs n w
      · have iw := Mo_wir (s := s) (d + 149) (i := i) (k := yRs S.fs n S.fs.length) (by omega)
        have ir := Mo_rs hfi hL.1 (d + 149) (x := n) (by omega)
        by_cases hi : ¬ i < 0 ∧ i < nI (yRs S.fs n S.fs.length)
        · rw [if_pos ⟨hv, hi⟩] at hr
          obtain ⟨g, M, b, hg, hM, hr⟩ := hr
          obtain ⟨v, rfl, _, v3⟩ := yVa_n hL hv
          have hv16 := (yVa_of hL v3).2
          rw [nI_ti2 (n := v) (by omega)] at hM
          obtain ⟨e1, e2⟩ := nI_tn hi.1
          have hlt : i.toInt.toNat < yRs S.fs n S.fs.length := by
            have := hi.2
            rw [e1, nI_ltE (by omega) (by omega)] at this
            exact this
          obtain ⟨s', z1, z2, z3, z4⟩ := Mo_rdc hw (hy (nI 0)) (by rw [gI_pI, if_pos ⟨rfl, rfl⟩]) d (n := n) (by omega) v3 hlt hg hM
          rw [← e1] at z1
          rw [hr]
          refine ⟨s', go _ ?_, by rw [yRo_0]; exact z2, z3, xMo_t xMo_0 z4⟩
          rw [iv, cG_I, show decide (yVa S.fs n (nI v)) = true from decide_eq_true hv, if_neg (by decide), ir, cG_I, iw, cG_I, decide_eq_true hi, if_pos (by decide)]
          refine eMo_read_22 (d + 149) _ _ _ _ _ (eMo_read_23 (d + 149) _ _ _ _ _ _ ?_)
          rw [e0, cG_I, if_pos rfl, (hy _).1.2, if_pos (by rw [hd0]; rfl)]
          exact z1
        · rw [if_neg (fun e => hi e.2)] at hr
          rw [hr]
          refine bad (fun R hR => go R ?_)
          rw [iv, cG_I, show decide (yVa S.fs n w) = true from decide_eq_true hv, if_neg (by decide), ir, cG_I, iw, cG_I, decide_eq_false hi, if_neg (by decide)]
          exact eMo_read_20 (d + 149) _ _ _ _ _ hR
      · rw [if_neg (fun e => hv e.1)] at hr
        rw [hr]
        refine bad (fun R hR => go R ?_)
        rw [iv, cG_I, show decide (yVa S.fs n w) = false from decide_eq_false hv, if_pos (by decide)]
        exact eMo_read_20 (d + 149) _ _ _ _ _ hR
end
