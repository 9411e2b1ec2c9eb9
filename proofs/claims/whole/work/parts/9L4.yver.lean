/-! versions that there are: both sides -/
/-- a version's file -/
abbrev yVd (L : List yFi) (x v : Nat) : List Nat := (L.getD (yVf L x v - 1) yF0).2.2.2.2.2
/-- where its tables begin -/
abbrev yVb (L : List yFi) (x v : Nat) : Nat := yB0 L (yVf L x v - 1)
abbrev yVa (L : List yFi) (x : Nat) (w : Int32) : Prop := ¬ w < 0 ∧ w < nI (yVc L x L.length)
section
variable {c : Nat} {S : yS} {s : aT} {L : List yFi}
theorem yVa_n (hL : yLw L) {x : Nat} {w : Int32} (h : yVa L x w) : ∃ v, w = nI v ∧ v < 41 ∧ yVf L x v ≠ 0 := by
  obtain ⟨e1, e2⟩ := nI_tn h.1
  have hc := yVc_le (L := L) x L.length
  have h40 := hL.1.1
  have h2 := h.2
  rw [e1, nI_ltE (by omega) (by omega)] at h2
  exact ⟨_, e1, by omega, (yVf_iff hL).1.mpr h2⟩
theorem yVa_of (hL : yLw L) {x v : Nat} (h : yVf L x v ≠ 0) : yVa L x (nI v) ∧ v < 16 := by
  have h1 := (yVf_iff hL).1.mp h
  have h2 := (yVf_iff hL).2 h
  have hc := yVc_le (L := L) x L.length
  have h40 := hL.1.1
  have h16 := (hL.1.2 _ h2.1).1.2
  exact ⟨⟨nI_n0 (by omega), by rw [nI_ltE (by omega) (by omega)]; exact h1⟩, by omega⟩
theorem Lk_nv (hL : yLw L) (h : lSc L s) (d : Nat) {x : Nat} (hx : x < 4) {w : Int32} : fLk_needVersion d (nI x) w s = if yVa L x w then rV s else rX 2 s := by
  by_cases h1 : w < 0
  · rw [if_neg (fun e => e.1 h1)]
    refine eLk_needVersion d _ _ _ _ ?_
    rw [if_pos h1]
    rfl
  · by_cases h2 : w < nI (yVc L x L.length)
    · rw [if_pos ⟨h1, h2⟩]
      refine eLk_needVersion d _ _ _ _ ?_
      rw [if_neg h1, ldI_n (by omega) (by omega), h.2.2.1 x hx, if_pos h2]
      rfl
    · rw [if_neg (fun e => h2 e.2)]
      refine eLk_needVersion d _ _ _ _ ?_
      rw [if_neg h1, ldI_n (by omega) (by omega), h.2.2.1 x hx, if_neg h2]
      rfl
/-- a version in the lake -/
theorem Lk_ver (hL : yLw L) (h : lSc L s) {x v : Nat} (hv : yVf L x v ≠ 0) : yVk (yVd L x v) ∧ x < 4 ∧ v < 16 ∧ (∀ d, fSc_rootOf d (nI x) (nI v) s = rI (nI (lo (yVb L x v) (yX (yVd L x v)))) s) ∧ (∀ d, fSc_baseOf d (nI x) (nI v) s = rI (nI (yVb L x v)) s) ∧ lW (yVb L x v) (yP0 L (yVf L x v - 1)) (yQ0 L (yVf L x v - 1)) (yQ (yVd L x v)) (yT (yVd L x v)) (yM (yVd L x v)) s := by
  obtain ⟨h1, h2, h3⟩ := (yVf_iff hL).2 hv
  obtain ⟨a1, a2, a3⟩ := h.2.2.2 _ h1 h2.2
  obtain ⟨b1, b2, b3⟩ := hL.2.2.1 _ h1 h2.2
  obtain ⟨c1, c2⟩ := (hL.1.2 _ h1).1
  rw [h2.1] at c1 a1 a2
  rw [h3] at c2 a1 a2
  refine ⟨b1, c1, c2, fun d => eSc_rootOf d _ _ _ _ ?_, fun d => eSc_baseOf d _ _ _ _ ?_, kVe_lw (yVk_g b1).2.1 a3⟩
  · rw [show (16 : Int32) = nI 16 from rfl, nI_mulE, nI_addE, ldI_n (by omega) (by omega), show x * 16 + v = 16 * x + v by omega, a1]
    rfl
  · rw [show (16 : Int32) = nI 16 from rfl, nI_mulE, nI_addE, ldI_n (by omega) (by omega), show x * 16 + v = 16 * x + v by omega, a2]
    rfl
/-- the reference's isVersion -/
theorem Mo_vfN (hl : mFi L s) (hs : yLs L) (d : Nat) {x : Nat} (hx : x < 4) {w : Int32} (hw : w < 0) : fMo_versionFile d (nI x) w s = rI (-1) s := by
  have h40 := hs.1
  have loop : ∀ k j, j + k = L.length → fMo_versionFile_2 d (nI x) w (nI j) s = rI (-1) s := by
    intro k
    induction k with
    | zero =>
      intro j hj
      refine eMo_versionFile_2 d _ _ _ _ _ ?_
      rw [hl.1, if_pos (show nI L.length ≤ nI j by rw [nI_leE (by omega) (by omega)]; omega)]
      rfl
    | succ k ih =>
      intro j hj
      obtain ⟨a1, a2, a3, a4, a5, a6⟩ := hl.2 j (by omega)
      obtain ⟨b1, b2, b3, b4, b5⟩ := hs.2 j (by omega)
      have g0 : fMo_versionFile_26 d (nI x) w (nI j) s = rI (-1) s := by
        refine eMo_versionFile_26 d _ _ _ _ _ ?_
        rw [nI_add1]
        exact ih (j + 1) (by omega)
      have hne : ¬ nI (L.getD j yF0).2.1 = w := fun e => by
        rw [← e] at hw
        exact nI_n0 (by omega) hw
      refine eMo_versionFile_2 d _ _ _ _ _ ?_
      rw [hl.1, if_neg (show ¬ nI L.length ≤ nI j by rw [nI_leE (by omega) (by omega)]; omega), ldI_n (by omega) (by omega), a1]
      by_cases h1 : nI (L.getD j yF0).1 = nI x
      · rw [if_neg (fun e => e h1), ldI_n (by omega) (by omega)]
        by_cases h2 : gI s 141 j = -1
        · rw [if_neg (fun e => e h2), ldI_n (by omega) (by omega), a2, if_pos hne]
          exact g0
        · rw [if_pos h2]
          exact g0
      · rw [if_pos h1]
        exact g0
  exact eMo_versionFile d _ _ _ _ (loop L.length 0 (by omega))
theorem Mo_isv (hL : yLw L) (hl : mFi L s) (d : Nat) {x : Nat} (hx : x < 4) {w : Int32} : fMo_isVersion (d + 2) (nI x) w s = rI (uB (decide (yVa L x w))) s := by
  refine eMo_isVersion (d + 1) _ _ _ _ ?_
  rw [Mo_isS, cG_I, show decide (¬ yNo (nI x) 3) = true from decide_eq_true (yNo_of (by omega) (by omega)), if_neg (by decide)]
  by_cases h1 : w < 0
  · rw [Mo_vfN hl hL.1 _ hx h1, cG_I, if_pos (by decide), show decide (yVa L x w) = false from decide_eq_false (fun e => e.1 h1)]
    rfl
  · obtain ⟨e1, e2⟩ := nI_tn h1
    have hc := yVc_le (L := L) x L.length
    have h40 := hL.1.1
    have hvf := Mo_vf hl hL.1 (d + 1) (x := x) (v := w.toInt.toNat) hx e2
    rw [← e1] at hvf
    have hle : yVf L x w.toInt.toNat ≤ 40 := by
      by_cases h0 : yVf L x w.toInt.toNat = 0
      · omega
      · have := ((yVf_iff hL).2 h0).1; omega
    rw [hvf, cG_I]
    by_cases h2 : w < nI (yVc L x L.length)
    · have h3 : yVf L x w.toInt.toNat ≠ 0 := (yVf_iff hL).1.mpr (by rw [e1, nI_ltE (by omega) (by omega)] at h2; exact h2)
      rw [zI_pos (by omega), if_neg (nI_n0 (by omega)), if_neg h1, show decide (yVa L x w) = true from decide_eq_true ⟨h1, h2⟩]
      rfl
    · have h3 : yVf L x w.toInt.toNat = 0 := by
        by_cases h0 : yVf L x w.toInt.toNat = 0
        · exact h0
        · exact absurd (by rw [e1, nI_ltE (by omega) (by omega)]; exact (yVf_iff hL).1.mp h0) h2
      rw [h3, if_pos (by decide), show decide (yVa L x w) = false from decide_eq_false (fun e => h2 e.2)]
      rfl
/-- the reference reads a version's text again -/
theorem Mo_rdvX (hL : yLw S.fs) (h : yMI S s) {x v cc : Nat} (hv : yVf S.fs x v ≠ 0) (hcc : cc = 91 ∨ cc = 113) (d : Nat) : ∃ s', s'.2.2.2 = s.2.2.2 ∧ fMo_readVersion (d + 59) cc (nI x) (nI v) s = rV s' ∧ (∀ k i, k < cc ∨ cc + 22 ≤ k → gI s' k i = gI s k i ∧ gL s' k i = gL s k i) ∧ gI s' cc 31 = nI (yX (yVd S.fs x v)) ∧ mW cc (yQ (yVd S.fs x v)) (yT (yVd S.fs x v)) (yN (yVd S.fs x v)) (yM (yVd S.fs x v)) (yL (yVd S.fs x v)) (yVd S.fs x v).length s' ∧ gI s' cc 33 = nI (kPl (yT (yVd S.fs x v)) (yQ (yVd S.fs x v)) 16 (yX (yVd S.fs x v)) 6).1.length ∧ ∀ i, i < (kPl (yT (yVd S.fs x v)) (yQ (yVd S.fs x v)) 16 (yX (yVd S.fs x v)) 6).1.length → gI s' (cc + 20) i = mI ((kPl (yT (yVd S.fs x v)) (yQ (yVd S.fs x v)) 16 (yX (yVd S.fs x v)) 6).1.getD i 0) := by
  obtain ⟨h1, h2, h3⟩ := (yVf_iff hL).2 hv
  obtain ⟨b1, b2, b3⟩ := hL.2.2.1 _ h1 h2.2
  obtain ⟨o1, o2, o3, o4, o5⟩ := hL.1.2 _ h1
  have h40 := hL.1.1
  have hc : isT cc := by unfold isT; rcases hcc with rfl | rfl <;> decide
  have hf := h.2.2.2.2.2.1
  obtain ⟨a1, a2, a3, a4, a5, a6⟩ := hf.2 _ h1
  have hx4 : x < 4 := by rw [← h2.1]; exact o1.1
  have hv16 : v < 16 := by rw [← h3]; exact o1.2
  have hdk := h.2.2.2.2.2.2.1 _ h1
  have hbn := yBk_n (S.fs.getD (yVf S.fs x v - 1) yF0).2.2.2.1
  have hrd := Mt_read (B := yB (yVd S.fs x v)) (n := (yVd S.fs x v).length) (s := s) (c := cc) (a := 143) (fr := 256 * (S.fs.getD (yVf S.fs x v - 1) yF0).2.2.1) hc b1.1.2 (by omega) (by show 256 * (S.fs.getD (yVf S.fs x v - 1) yF0).2.2.1 + (S.fs.getD (yVf S.fs x v - 1) yF0).2.2.2.2.2.length ≤ 32768; omega) (by decide) (fun i hi => hdk i hi) (yB_bt b1.1.1) d
  rw [b1.2.1] at hrd
  obtain ⟨g1, g2, g3, g4, g5⟩ := yVk_g b1
  have hsq := kVe_sq (T := yT (yVd S.fs x v)) (N := yN (yVd S.fs x v)) (q0 := (yRd (yVd S.fs x v)).2.1)
  have hpl : kPl (yT (yVd S.fs x v)) (yQ (yVd S.fs x v)) 16 (yX (yVd S.fs x v)) 6 = kPl (yT (yVd S.fs x v)) (yRd (yVd S.fs x v)).2.1 16 (yX (yVd S.fs x v)) 6 := kPl_sq hsq _ _ _
  refine ⟨mTx cc (yB (yVd S.fs x v)) (yVd S.fs x v).length (yRd (yVd S.fs x v)).1 (yRd (yVd S.fs x v)).2.1 (yX (yVd S.fs x v)) s, by rw [mTx_gb.2], eMo_readVersion (d + 58) cc _ _ _ hc _ ?_, fun k i hk => mTx_gb.1 k i hk, mTx_f.1, mW_sq hsq (kVe_iv g2.1) ⟨hc, mTx_V, mTx_T, g1, g2.1, g2.2.1, by show (yRd (S.fs.getD (yVf S.fs x v - 1) yF0).2.2.2.2.2).2.1.1 2 ≤ 2200; have := g2.2.2.2.2.2.2.1; have := b1.1.2; omega, kRo_16 g2⟩, by rw [hpl]; exact mTx_f.2.2.1, fun i hi => by rw [hpl] at hi ⊢; exact mTx_r hi⟩
  rw [Mo_vf hf hL.1 (d + 58) hx4 (by omega), cG_I, zI_pos (by omega), ldI_n (by omega) (by omega), a3, ldI_n (by omega) (by omega), a4, b2, show (256 : Int32) = nI 256 from rfl, nI_mulE]
  have hrd : fMt_read (d + 58) cc 143 (nI (256 * (S.fs.getD (yVf S.fs x v - 1) yF0).2.2.1)) (nI (yVd S.fs x v).length) s = rI 0 (mTx cc (yB (yVd S.fs x v)) (yVd S.fs x v).length (yRd (yVd S.fs x v)).1 (yRd (yVd S.fs x v)).2.1 (yX (yVd S.fs x v)) s) := hrd
  rw [hrd, cN_I]
  rfl
theorem Mo_rdv (hL : yLw S.fs) (h : yMI S s) {x v cc : Nat} (hv : yVf S.fs x v ≠ 0) (hcc : cc = 91 ∨ cc = 113) (d : Nat) : ∃ s', fMo_readVersion (d + 59) cc (nI x) (nI v) s = rV s' ∧ (∀ k i, k < cc ∨ cc + 22 ≤ k → gI s' k i = gI s k i ∧ gL s' k i = gL s k i) ∧ gI s' cc 31 = nI (yX (yVd S.fs x v)) ∧ mW cc (yQ (yVd S.fs x v)) (yT (yVd S.fs x v)) (yN (yVd S.fs x v)) (yM (yVd S.fs x v)) (yL (yVd S.fs x v)) (yVd S.fs x v).length s' ∧ gI s' cc 33 = nI (kPl (yT (yVd S.fs x v)) (yQ (yVd S.fs x v)) 16 (yX (yVd S.fs x v)) 6).1.length ∧ ∀ i, i < (kPl (yT (yVd S.fs x v)) (yQ (yVd S.fs x v)) 16 (yX (yVd S.fs x v)) 6).1.length → gI s' (cc + 20) i = mI ((kPl (yT (yVd S.fs x v)) (yQ (yVd S.fs x v)) 16 (yX (yVd S.fs x v)) 6).1.getD i 0) := by
  obtain ⟨s', _, h'⟩ := Mo_rdvX hL h hv hcc d
  exact ⟨s', h'⟩
/-- .. and makes no exception -/
theorem Mo_rdvU (hL : yLw S.fs) (h : yMI S s) {x v cc : Nat} (hv : yVf S.fs x v ≠ 0) (hcc : cc = 91 ∨ cc = 113) (d : Nat) {s' : aT} (hs : fMo_readVersion (d + 59) cc (nI x) (nI v) s = rV s') : s'.2.2.2 = s.2.2.2 := by
  obtain ⟨s1, h1, h2, _⟩ := Mo_rdvX hL h hv hcc d
  rw [h2] at hs
  have e : s1 = s' := (Prod.mk.inj (Option.some.inj hs)).2
  rw [← e]
  exact h1
end
