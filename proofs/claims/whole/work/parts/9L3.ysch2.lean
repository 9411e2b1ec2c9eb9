/-! schema: both sides -/
section
variable {c c' : Nat} {S : yS} {s s' : aT}
/-- the lake's state, part by part -/
theorem yLI_all {tp pl ou : List Nat} {pc : Int32} (hx : ∀ k i, k < 67 → (k = 0 ∧ i = 16 ∨ k = 49 ∧ i = 4 ∨ k = 50 ∨ 56 ≤ k ∧ k ≤ 63) → gI s' k i = gI s k i) (hc : c ≤ c') (h1 : lBy 1 tp s') (h2 : lBy 3 pl s') (h3 : lBy 5 ou s') (h4 : gI s' 0 15 = pc) (h5 : lSc (yUp S) s') (hl : yLI c S s) : yLI c' (yMk tp pl ou pc S.dn S.pw S.fs) s' := by
  obtain ⟨⟨a1, a2⟩, _, d1, ⟨tn, e1, e2, e3⟩, f1, g1, i1, j1⟩ := hl
  exact ⟨⟨h4, by rw [hx 0 16 (by omega) (by omega)]; exact a2⟩, ⟨h1, h2, h3⟩, by rw [hx 56 1 (by omega) (by omega)]; exact d1, ⟨tn, by omega, lDl_fr (fun i _ => hx 57 i (by omega) (by omega)) e2, fun hd => by rw [hx 58 6 (by omega) (by omega)]; exact e3 hd⟩, lFi_fr (fun k i h1 h2 => hx k i (by omega) (by omega)) f1, h5, fun i hi j hj => by rw [hx 57 _ (by omega) (by omega)]; exact i1 i hi j hj, lMk_fr (hx 49 4 (by omega) (by omega)) (fun i _ => hx 50 i (by omega) (by omega)) hc j1⟩
theorem yTr_e : (yTr S).2 = yMk S.tp (yTr S).2.pl S.ou (yTr S).2.pc S.dn S.pw S.fs := by
  unfold yTr
  split <;> rfl
theorem L_schema (hw : yWf S) (h : yLI c S s) (d : Nat) (E : Nat → Nat) : yLr c s E (fLk_schema (d + 91) s) (y_schema S) := by
  have hL := yUp_w hw
  have hsc := h.2.2.2.2.2.1
  obtain ⟨s1, x1, x2, x3, x4, x5, x6⟩ := Lk_rt hw h d
  obtain ⟨s2, d1, d2, d3⟩ := Sc_dr (s' := s1) hL hsc (fun k i h1 h2 hn => x2 k i (by omega) (fun e => by
    unfold xRt at e
    rcases e with e | e
    · exact hn e
    · omega)) (d + 90)
  have hrt : ∃ v, fLk_readTape (d + 90) s = rI v s1 := by
    split at x6
    · exact ⟨_, x6.1⟩
    · exact ⟨_, x6⟩
  obtain ⟨v, hrt⟩ := hrt
  have ho : ∀ k i, k ≠ 22 → k ≠ 32 → gI s2 k i = gI s1 k i := fun k i a b => d3 k i (by omega)
  refine yLr_0 ⟨s2, eLk_schema (d + 90) _ _ ?_, ?_, fun k i hk => by rw [ho k i (by omega) (by omega)]; exact x1 k i hk⟩
  · rw [hrt, cG_I, d1, cG_V, ho 37 0 (by omega) (by omega), x5]
    rfl
  · show yLI (c + 1) (yTr S).2 s2
    rw [yTr_e]
    have hb := h.2.1
    have hs : ∀ k i, k < 67 → (k = 0 ∧ i = 16 ∨ k = 1 ∨ k = 2 ∨ k = 5 ∨ k = 6 ∨ k = 49 ∧ i = 4 ∨ k = 50 ∨ 56 ≤ k ∧ k ≤ 63) → gI s2 k i = gI s k i := fun k i h1 h2 => by
      rw [ho k i (by omega) (by omega)]
      exact x2 k i h1 (fun e => by unfold xRt xRg at e; omega)
    exact yLI_all (fun k i h1 h2 => hs k i h1 (by omega)) (by omega) (lBy_fr (fun k i hk => hs k i (by omega) (by omega)) hb.1) (lBy_fr (fun k i hk => ho k i (by omega) (by omega)) x3) (lBy_fr (fun k i hk => hs k i (by omega) (by omega)) hb.2.2) (by rw [ho 0 15 (by omega) (by omega)]; exact x4) d2 h
/-- the reference: letters of the plain form come over -/
def oPm (L : List Nat) (j : Nat) (t : aT) : aT := (fun k i => if k = 135 ∧ i < j then mI (L.getD i 0) else t.1 k i, t.2)
theorem oPm_I {L : List Nat} {j k i : Nat} : gI (oPm L j s) k i = if k = 135 ∧ i < j then mI (L.getD i 0) else gI s k i := rfl
theorem oPm_o {L : List Nat} {j k i : Nat} (h : k ≠ 135) : gI (oPm L j s) k i = gI s k i := by rw [oPm_I, if_neg (fun e => h e.1)]
theorem oPm_s {L : List Nat} {j : Nat} : pI (oPm L j s) 135 j (mI (L.getD j 0)) = oPm L (j + 1) s := by
  refine aT_ext (fun k i => ?_) (fun _ _ => rfl) rfl
  rw [gI_pI, oPm_I, oPm_I]
  by_cases h : k = 135 ∧ i = j
  · rw [if_pos h, if_pos (by omega), h.2]
  · rw [if_neg h]
    by_cases h2 : k = 135 ∧ i < j
    · rw [if_pos h2, if_pos (by omega)]
    · rw [if_neg h2, if_neg (by omega)]
theorem oPm_0 {L : List Nat} : oPm L 0 s = s := by
  refine aT_ext (fun k i => ?_) (fun _ _ => rfl) rfl
  rw [oPm_I, if_neg (by omega)]
theorem Mo_rt25 (d : Nat) {L : List Nat} (hl : L.length ≤ 4096) (hb : kBt L) (h8 : gI s 67 8 = nI L.length) (h89 : ∀ i, i < L.length → gI s 89 i = mI (L.getD i 0)) {z : Int32} : ∀ k j, j + k = L.length → fMo_readTyped_25 (d + 1) z (nI j) (oPm L j s) = rI z (oPm L L.length s) := by
  intro k
  induction k with
  | zero =>
    intro j hj
    refine eMo_readTyped_25 d _ _ _ _ ?_
    rw [oPm_o (by omega), h8, if_pos (show nI L.length ≤ nI j by rw [nI_leE (by omega) (by omega)]; omega), show j = L.length by omega]
    rfl
  | succ k ih =>
    intro j hj
    refine eMo_readTyped_25 d _ _ _ _ ?_
    rw [oPm_o (by omega), h8, if_neg (show ¬ nI L.length ≤ nI j by rw [nI_leE (by omega) (by omega)]; omega), ldI_n (by omega) (by omega), oPm_o (by omega), h89 j (by omega), mI_nar _ (kBt_gd hb j), stI_n (by omega) (by omega), oPm_s, nI_add1]
    exact ih (j + 1) (by omega)
/-- the reference reads the tape -/
theorem Mo_rty (hw : yWf S) (h : yMI S s) (d : Nat) : ∃ s', fMo_readTyped (d + 60) s = rI (nI (yTr S).1) s' ∧ yMI (yTr S).2 s' ∧ xMk (if (yTr S).1 = 0 then 0 else 1) s s' ∧ gI s' 67 0 = gI s 67 0 ∧ (∀ p q x, kTx (yB S.tp) S.tp.length = .ok (p, q, x) → gI s' 69 31 = nI x ∧ gI s' 69 6 = nI p.1 ∧ mW 69 q p.2.2.2.1 p.2.2.2.2 p.2.1 p.2.2.1 p.1 s') ∧ (∀ k i, 67 ≤ k → ¬ (69 ≤ k ∧ k < 91) → k ≠ 135 → ¬ (k = 67 ∧ (i = 3 ∨ i = 8)) → gI s' k i = gI s k i) := by
  have hl := hw.1.2
  have hc : isT 69 := by unfold isT; decide
  have hA : ∀ i, i < S.tp.length → gI s 68 (0 + i) = mI (yB S.tp i) := fun i hi => by rw [Nat.zero_add]; exact h.2.1.2 i hi
  have fin : ∀ (u : aT) (fl : Nat) (W : List Nat) (P : Int32), kBt W → W.length ≤ 4096 → gI u 69 33 = nI W.length → (∀ i, i < W.length → gI u 89 i = mI (W.getD i 0)) → (∀ k i, k < 69 ∨ 91 ≤ k → gI u k i = gI s k i) → ∀ ux : u.2.2.2 ≤ s.2.2.2 + (if fl = 0 then 0 else 1), ∀ ug : gL u 149 0 = gL s 149 0, yTr S = (fl, yMk S.tp W S.ou P S.dn S.pw S.fs) → (∀ r, fMo_readTyped_17 (d + 60) (nI fl) P u = some r → fMo_readTyped (d + 60) s = some r) → fMo_readTyped (d + 60) s = rI (nI (yTr S).1) (oPm W W.length (pI (pI u 67 3 P) 67 8 (nI W.length))) ∧ yMI (yTr S).2 (oPm W W.length (pI (pI u 67 3 P) 67 8 (nI W.length))) ∧ xMk (if (yTr S).1 = 0 then 0 else 1) s (oPm W W.length (pI (pI u 67 3 P) 67 8 (nI W.length))) ∧ gI (oPm W W.length (pI (pI u 67 3 P) 67 8 (nI W.length))) 67 0 = gI s 67 0 ∧ (∀ k i, 67 ≤ k → ¬ (69 ≤ k ∧ k < 91) → k ≠ 135 → ¬ (k = 67 ∧ (i = 3 ∨ i = 8)) → gI (oPm W W.length (pI (pI u 67 3 P) 67 8 (nI W.length))) k i = gI s k i) := by
    intro u fl W P hbW hlW h33 h89 hu ux ug er go
    have g89 : ∀ i, i < W.length → gI (pI (pI u 67 3 P) 67 8 (nI W.length)) 89 i = mI (W.getD i 0) := fun i hi => by rw [gI_pI, if_neg (by omega), gI_pI, if_neg (by omega)]; exact h89 i hi
    have h25 := Mo_rt25 (s := pI (pI u 67 3 P) 67 8 (nI W.length)) (d + 59) hlW hbW (by rw [gI_pI, if_pos ⟨rfl, rfl⟩]) g89 (z := nI fl) W.length 0 (by omega)
    rw [oPm_0] at h25
    have ho : ∀ k i, k ≠ 135 → ¬ (k = 67 ∧ (i = 3 ∨ i = 8)) → gI (oPm W W.length (pI (pI u 67 3 P) 67 8 (nI W.length))) k i = gI u k i := fun k i a b => by
      rw [oPm_I, if_neg (by omega), gI_pI, if_neg (by omega), gI_pI, if_neg (by omega)]
    refine ⟨?_, ?_, ⟨fun k i hk => by rw [ho k i (by omega) (by omega)]; exact hu k i (by omega), by rw [er]; exact ux, ug⟩, by rw [ho 67 0 (by omega) (by omega)]; exact hu 67 0 (by omega), fun k i h1 h2 h3 h4 => by rw [ho k i h3 h4]; exact hu k i (by omega)⟩
    · rw [er]
      refine go _ (eMo_readTyped_17 (d + 59) _ _ _ _ ?_)
      rw [wI_eq, wI_eq, gI_pI, if_neg (by omega), h33]
      exact h25
    · rw [er]
      show yMI (yMk S.tp W S.ou P S.dn S.pw S.fs) _
      refine yMI_ch (s := s) (fun k i hk hn => ?_) ⟨by rw [ho 67 2 (by omega) (by omega), hu 67 2 (by omega)]; exact h.2.1.1, fun i hi => by rw [ho 68 i (by omega) (by omega), hu 68 i (by omega)]; exact h.2.1.2 i hi⟩ ⟨by rw [oPm_I, if_neg (by omega), gI_pI, if_pos ⟨rfl, rfl⟩], fun i hi => by rw [oPm_I, if_pos ⟨rfl, hi⟩]⟩ ⟨by rw [ho 67 10 (by omega) (by omega), hu 67 10 (by omega)]; exact h.2.2.2.1.1, fun i hi => by rw [ho 136 i (by omega) (by omega), hu 136 i (by omega)]; exact h.2.2.2.1.2 i hi⟩ (by rw [oPm_I, if_neg (by omega), gI_pI, if_neg (by omega), gI_pI, if_pos ⟨rfl, rfl⟩]) h
      have hn2 : ¬ (69 ≤ k ∧ k ≤ 134) ∧ k ≠ 135 ∧ ¬ (k = 67 ∧ (i = 3 ∨ i = 8)) := ⟨fun e => hn (by unfold xTn xTm; omega), fun e => hn (by unfold xTn; omega), fun e => hn (by unfold xTn; omega)⟩
      rw [ho k i hn2.2.1 hn2.2.2]
      exact hu k i (by omega)
  cases hk : kTx (yB S.tp) S.tp.length with
  | error x =>
    obtain ⟨k, e⟩ := x
    obtain ⟨t, t1, t2, t3, t4, t5⟩ := Mt_rdF (s := s) (a := 68) (fr := 0) hc hl (by omega) (by show 0 + _ ≤ 4096; omega) (by decide) hA (yB_bt hw.1.1) (d + 1) hk
    have hkp : 0 < k ∧ k < 1000 := kTx_k hk
    have er : yTr S = (k, yMk S.tp [] S.ou (nI e) S.dn S.pw S.fs) := by unfold yTr; rw [hk]
    have hf := fin t k [] (nI e) kBt_nil (by show 0 ≤ 4096; omega) t4 (fun i hi => absurd hi (Nat.not_lt_zero _)) (fun k i hk => (t5.1 k i (by omega)).1) (by rw [if_neg (by omega), t5.2]; exact Nat.le_refl _) (t5.1 149 0 (by omega)).2 er (fun r hr => eMo_readTyped (d + 59) _ _ (by
      rw [h.2.1.1, show (0 : Int32) = nI 0 from rfl, show d + 59 = d + 1 + 58 by omega, t1, cN_I, if_neg (show ¬ nI k ≤ nI 0 by rw [nI_leE (by omega) (by omega)]; omega), t3]
      exact hr))
    exact ⟨_, hf.1, hf.2.1, hf.2.2.1, hf.2.2.2.1, (fun p q x e => by cases e), hf.2.2.2.2⟩
  | ok x =>
    obtain ⟨p, q, x⟩ := x
    have hrd := Mt_read (s := s) (a := 68) (fr := 0) hc hl (by omega) (by show 0 + _ ≤ 4096; omega) (by decide) hA (yB_bt hw.1.1) (d + 1)
    rw [hk] at hrd
    have hrd : fMt_read (d + 1 + 58) 69 68 (nI 0) (nI S.tp.length) s = rI 0 (mTx 69 (yB S.tp) S.tp.length p q x s) := hrd
    obtain ⟨hG, hpe, hg, hso, hpl⟩ := kTx_ok hl hk
    have er : yTr S = (0, yMk S.tp (kPl p.2.2.2.1 q 16 x 6).1 S.ou (-1) S.dn S.pw S.fs) := by unfold yTr; rw [hk]
    have hbW : kBt (kPl p.2.2.2.1 q 16 x 6).1 := kPl_b hg.1 (fun v i hvm h2 hi => by
      have := hG.2.2.2.1 v hvm h2
      exact hG.2.2.1 _ (by omega)) 16 x 6 (q.1 1) (Nat.le_refl _) (Nat.le_refl _) hg.2.2.2.2.2.1
    have hgb := mTx_gb (c := 69) (B := yB S.tp) (n := S.tp.length) (p := p) (q := q) (x := x) (s := s)
    have hf := fin (mTx 69 (yB S.tp) S.tp.length p q x s) 0 (kPl p.2.2.2.1 q 16 x 6).1 (-1) hbW (by omega) mTx_f.2.2.1 (fun i hi => mTx_r hi) (fun k i hk => (hgb.1 k i (by omega)).1) (by rw [hgb.2]; exact Nat.le_refl _) (hgb.1 149 0 (by omega)).2 er (fun r hr => eMo_readTyped (d + 59) _ _ (by
      rw [h.2.1.1, show (0 : Int32) = nI 0 from rfl, show d + 59 = d + 1 + 58 by omega, hrd, cN_I, if_pos (show (0 : Int32) ≤ nI 0 by decide)]
      exact hr))
    refine ⟨_, hf.1, hf.2.1, hf.2.2.1, hf.2.2.2.1, fun p' q' x' e => ?_, hf.2.2.2.2⟩
    cases e
    have ho : ∀ k i, k ≠ 135 → k ≠ 67 → gI (oPm (kPl p.2.2.2.1 q 16 x 6).1 (kPl p.2.2.2.1 q 16 x 6).1.length (pI (pI (mTx 69 (yB S.tp) S.tp.length p q x s) 67 3 (-1)) 67 8 (nI (kPl p.2.2.2.1 q 16 x 6).1.length))) k i = gI (mTx 69 (yB S.tp) S.tp.length p q x s) k i := fun k i a b => by
      rw [oPm_I, if_neg (by omega), gI_pI, if_neg (by omega), gI_pI, if_neg (by omega)]
    refine ⟨by rw [ho 69 31 (by omega) (by omega)]; exact mTx_f.1, by rw [ho 69 6 (by omega) (by omega)]; exact mTx_f.2.1, ?_⟩
    have hc2 := hg.1.1
    exact mW_frc (fun k i h1 h2 => ho k i (by omega) (by omega)) (fun _ _ => rfl) ⟨hc, mTx_V, mTx_T, hG, hg.1, hg.2.1, by have := hg.2.2.2.2.2.2.1; omega, kRo_16 hg⟩
theorem M_schema (hw : yWf S) (h : yMI S s) (d : Nat) : yMr s (fMo_schema (d + 61) s) (y_schema S) := by
  have h0 := yMI_0 (v := 0) h
  obtain ⟨s', r1, r2, r3, r4, _⟩ := Mo_rty hw h0 d
  refine ⟨s', eMo_schema (d + 60) _ _ ?_, ?_, r2, xMo_t xMo_0 ⟨r3.1, by have := r3.2.1; split at this <;> omega, r3.2.2⟩⟩
  · rw [wI_eq, r1, cG_I]
    rfl
  · rw [r4, gI_pI, if_pos ⟨rfl, rfl⟩]
    rfl
end
