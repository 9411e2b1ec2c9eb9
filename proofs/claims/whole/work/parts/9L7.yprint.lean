/-! print, fits: both sides -/
def yLp (c : Nat) (s : aT) (E : Nat → Nat) (F : aRs) (r : Nat × Int64 × yS) : Prop := if r.1 = 0 then ∃ s', F = rL r.2.1 s' ∧ yLI (c + 1) r.2.2 s' ∧ xLk s s' else F = rX (E r.1) s
def yMp (s : aT) (F : aRs) (r : Nat × Int64 × yS) : Prop := ∃ s', F = rL r.2.1 s' ∧ gI s' 67 0 = nI r.1 ∧ yMI r.2.2 s' ∧ xMo s s'
/-- a version's plain form -/
def yPf (C : List Nat) : List Nat := (kPl (yT C) (yQ C) 16 (yX C) 6).1
theorem yPf_e {C : List Nat} : yPf C = (kPl (yT C) (yRd C).2.1 16 (yX C) 6).1 := by
  unfold yPf yQ
  rw [kPl_sq kVe_sq]
theorem yPf_bt {C : List Nat} (h : yVk C) : kBt (yPf C) ∧ (yPf C).length ≤ C.length := by
  obtain ⟨g1, g2, g3, g4, g5⟩ := yVk_g h
  rw [yPf_e]
  refine ⟨kPl_b g2.1 (fun v i hvm h2 hi => ?_) 16 _ 6 _ (Nat.le_refl _) (Nat.le_refl _) g2.2.2.2.2.2.1, g5⟩
  have := g1.2.2.2.1 v hvm h2
  exact g1.2.2.1 _ (by omega)
theorem lRo_y {C : List Nat} {b pb qb : Nat} {t : aT} (h : yVk C) (hv : lV b pb qb (yQ C) t) : lRo b pb qb (yQ C) t (yT C) (yM C) (yX C) := lRo_v (p := (yRd C).1) (q := (yRd C).2.1) (x := (yRd C).2.2) h.1.2 h.2.1 hv
def y_print (x w : Int32) (S : yS) : Nat × Int64 × yS := yGt x w S (1, 0, S) (0, 0, S) (fun n v => (0, kCr (-4513414715797952619) (yPf (yVd S.fs n v)), S))
section
variable {c : Nat} {S : yS} {s : aT}
theorem L_print (hw : yWf S) (h : yLI c S s) (d : Nat) {E : Nat → Nat} (hE : E 1 = 2) (x w : Int32) : yLp c s E (fLk_print (d + 60) x w s) (y_print x w S) := by
  have yLp_0 : ∀ {F : aRs} {v : Int64} {S' : yS}, (∃ s', F = rL v s' ∧ yLI (c + 1) S' s' ∧ xLk s s') → yLp c s E F (0, v, S') := fun h => by
    unfold yLp
    rw [if_pos rfl]
    exact h
  have yLp_k : ∀ {F : aRs}, F = rX 2 s → yLp c s E F (1, 0, S) := fun h => by
    unfold yLp
    rw [if_neg (by show ¬ 1 = 0; omega)]
    show _ = rX (E 1) s
    rw [hE]
    exact h
  by_cases hx : yNo x 3
  · have er : y_print x w S = (1, 0, S) := if_pos hx
    rw [er]
    refine yLp_k (eLk_print (d + 59) _ _ _ _ ?_)
    rw [Lk_ns, if_pos hx]
    rfl
  · obtain ⟨n, n1, rfl⟩ := yNo_n (by omega) hx
    have go : ∀ r, (if gI s 0 16 = 0 then cG (fLk_needVersion (d + 59) (nI n) w s) (kV fun s2 => cG (fSc_rootOf (d + 59) (nI n) w s2) (kI fun v4 s3 => cG (fPf_printOf (d + 59) v4 s3) (kL fun v6 s5 => rL v6 s5))) else rL 0 s) = some r → fLk_print (d + 60) (nI n) w s = some r := by
      intro r hr
      refine eLk_print (d + 59) _ _ _ _ ?_
      rw [Lk_ns, if_neg hx, cG_V]
      exact hr
    rw [h.1.2] at go
    by_cases hd : S.dn = true
    · have er : y_print (nI n) w S = (0, 0, S) := by unfold y_print yGt; rw [if_neg hx, if_pos hd]
      rw [er]
      rw [if_neg (by rw [hd]; decide)] at go
      exact yLp_0 ⟨s, go _ rfl, yLI_c (by omega) h, xLk_r⟩
    · have hd0 : S.dn = false := by simpa using hd
      have hL := hw.2.2.2.2
      have hsc := h.2.2.2.2.2.1
      rw [yUp_f hd0] at hsc
      rw [if_pos (by rw [hd0]; rfl), Lk_nv hL hsc (d + 59) (by omega)] at go
      by_cases hv : yVa S.fs n w
      · obtain ⟨v, rfl, _, v3⟩ := yVa_n hL hv
        have er : y_print (nI n) (nI v) S = (0, kCr (-4513414715797952619) (yPf (yVd S.fs n v)), S) := by
          unfold y_print yGt
          rw [if_neg hx, if_neg hd, nI_ti2 (by omega), nI_ti2 (by omega), if_pos hv]
        rw [er]
        rw [if_pos hv, cG_V] at go
        obtain ⟨a1, a2, a3, a4, a5, a6⟩ := Lk_ver hL hsc v3
        have hp := Pf_print d (lRo_y a1 a6.1)
        have ho : ∀ k i, k < 41 ∨ 43 < k → gI (oP 42 (kPl (yT (yVd S.fs n v)) (yQ (yVd S.fs n v)) 16 (yX (yVd S.fs n v)) 6).1 (yVb S.fs n v) ((yQ (yVd S.fs n v)).1 1) (pM4 s 42)) k i = gI s k i := fun k i hk => by
          rw [oP_o (by omega)]
          rfl
        refine yLp_0 ⟨_, go _ ?_, yLI_fr (fun k i hk hn => ho k i (by
          by_cases e : 41 ≤ k ∧ k ≤ 43
          · exact absurd (show xTr k i by unfold xTr; omega) hn
          · omega)) (by omega) h, fun k i hk => ho k i (by omega)⟩
        rw [a4, cG_I, hp, cG_L]
        rfl
      · have er : y_print (nI n) w S = (1, 0, S) := by
          unfold y_print yGt
          rw [if_neg hx, if_neg hd, nI_ti2 (by omega), if_neg hv]
        rw [er]
        rw [if_neg hv] at go
        exact yLp_k (go _ rfl)
theorem M_print (hw : yWf S) (h : yMI S s) (d : Nat) (x w : Int32) : yMp s (fMo_print (d + 62) x w s) (y_print x w S) := by
  have hy : ∀ v, yMI S (pI s 67 0 v) := fun v => yMI_0 h
  have hgo := Mo_go_print hw.2.2.2.2 h (d + 59) (x := x) (w := w)
  rw [show d + 59 + 3 = d + 62 by omega] at hgo
  have go : ∀ r, cG (fMo_refused (d + 61) (uB (yBad x w S)) 0 s) (kI fun v2 s1 => if ¬ v2 = 0 then rL 0 s1 else if gI s1 67 11 = 0 then cG (fMo_printOf (d + 61) x w s1) (kL fun v4 s3 => rL v4 s3) else rL 0 s1) = some r → fMo_print (d + 62) x w s = some r := fun r hr => hgo r (eMo_print_15 (d + 61) _ _ _ _ _ hr)
  have bad : yBad x w S = true → yMp s (fMo_print (d + 62) x w s) (1, 0, S) := fun hb => by
    refine ⟨pI s 67 0 (nI 1), go _ ?_, by rw [gI_pI, if_pos ⟨rfl, rfl⟩], hy _, xMo_0⟩
    have e0 : fMo_refused (d + 61) (uB true) 0 s = rI 1 (pI s 67 0 (nI 1)) := Mo_ref (d + 61) (a := true) (b := false)
    rw [hb, e0, cG_I, if_pos (by decide)]
    rfl
  have e0 : fMo_refused (d + 61) (uB false) 0 s = rI 0 (pI s 67 0 (nI 0)) := Mo_ref (d + 61) (a := false) (b := false)
  by_cases hx : yNo x 3
  · have er : y_print x w S = (1, 0, S) := if_pos hx
    rw [er]
    exact bad (yBad_1 hx)
  · obtain ⟨n, n1, rfl⟩ := yNo_n (by omega) hx
    by_cases hd : S.dn = true
    · have er : y_print (nI n) w S = (0, 0, S) := by unfold y_print yGt; rw [if_neg hx, if_pos hd]
      rw [er]
      refine ⟨pI s 67 0 (nI 0), go _ ?_, by rw [gI_pI, if_pos ⟨rfl, rfl⟩], hy _, xMo_0⟩
      rw [yBad_2 hx hd, e0, cG_I, if_neg (fun e => e rfl), (hy _).1.2, if_neg (by rw [hd]; decide)]
      rfl
    · have hd0 : S.dn = false := by simpa using hd
      have hL := hw.2.2.2.2
      by_cases hv : yVa S.fs n w
      · have hb := yBad_3 (S := S) (w := w) hx (by rw [nI_ti2 (by omega)]; exact hv)
        obtain ⟨v, rfl, _, v3⟩ := yVa_n hL hv
        have er : y_print (nI n) (nI v) S = (0, kCr (-4513414715797952619) (yPf (yVd S.fs n v)), S) := by
          unfold y_print yGt
          rw [if_neg hx, if_neg hd, nI_ti2 (by omega), nI_ti2 (by omega), if_pos hv]
        rw [er]
        obtain ⟨b1, _, _⟩ := hL.2.2.1 _ ((yVf_iff hL).2 v3).1 ((yVf_iff hL).2 v3).2.1.2
        obtain ⟨s1, q1, q2, q3, q4, q5, q6⟩ := Mo_rdv hL (hy (nI 0)) v3 (.inr rfl) (d + 1)
        have hpf := yPf_bt b1
        have hlen := b1.1.2
        have hpr := Mt_print (t := s1) q4.1 (d + 60) (W := yPf (yVd S.fs n v)) (by show (yPf (S.fs.getD (yVf S.fs n v - 1) yF0).2.2.2.2.2).length ≤ 4200; have := hpf.2; omega) hpf.1 q5 q6
        have hs1 : yMI S s1 := yMI_fr (fun k i hk hn => (q2 k i (by
          by_cases e : 113 ≤ k ∧ k < 135
          · exact absurd (show xTm k i by unfold xTm; omega) hn
          · omega)).1) (hy (nI 0))
        refine ⟨s1, go _ ?_, by rw [(q2 67 0 (by omega)).1, gI_pI, if_pos ⟨rfl, rfl⟩], hs1, fun k i hk => by rw [(q2 k i (by omega)).1, gI_pI, if_neg (by omega)], by rw [Mo_rdvU hL (hy (nI 0)) v3 (.inr rfl) (d + 1) q1]; exact Nat.le_add_right _ _, (q2 149 0 (by omega)).2⟩
        have hpo : fMo_printOf (d + 61) (nI n) (nI v) (pI s 67 0 (nI 0)) = rL (kCr (-4513414715797952619) (yPf (yVd S.fs n v))) s1 := by
          refine eMo_printOf (d + 60) _ _ _ _ ?_
          rw [show d + 60 = d + 1 + 59 by omega, q1, cG_V, show d + 1 + 59 = d + 60 by omega, hpr, cG_L]
          rfl
        rw [hb, e0, cG_I, if_neg (fun e => e rfl), (hy _).1.2, if_pos (by rw [hd0]; rfl), hpo, cG_L]
        rfl
      · have er : y_print (nI n) w S = (1, 0, S) := by
          unfold y_print yGt
          rw [if_neg hx, if_neg hd, nI_ti2 (by omega), if_neg hv]
        rw [er]
        exact bad (yBad_4 hx hd0 (by rw [nI_ti2 (by omega)]; exact hv))
/- fits -/
def y_fits (x1 w1 x2 w2 : Int32) (S : yS) : Nat × Int32 × yS := if yNo x1 3 ∨ yNo x2 3 then (1, 0, S) else if S.dn = true then (0, 0, S) else if yVa S.fs x1.toInt.toNat w1 ∧ yVa S.fs x2.toInt.toNat w2 then (0, if kFits (yQ (yVd S.fs x1.toInt.toNat w1.toInt.toNat)) (yQ (yVd S.fs x2.toInt.toNat w2.toInt.toNat)) (yX (yVd S.fs x1.toInt.toNat w1.toInt.toNat)) (yX (yVd S.fs x2.toInt.toNat w2.toInt.toNat)) = true then 1 else 0, S) else (1, 0, S)
theorem yVb_ok (hL : yLw S.fs) {n v : Nat} (hv : yVf S.fs n v ≠ 0) : 6 ≤ yVb S.fs n v ∧ yVb S.fs n v < 100000 := by
  have := ((yVf_iff hL).2 hv).1
  have := yB0_le hL (yVf S.fs n v - 1) (by omega)
  have h40 := hL.1.1
  exact ⟨this.1, by show yB0 S.fs (yVf S.fs n v - 1) < 100000; omega⟩
/-- the lake's state after a fitting -/
theorem yLI_ft (hc : c ≤ 100000) (h : yLI c S s) {S0 b1 b2 : Nat} {L' : List (Nat × Nat)} (h1 : S0 ≤ 20 * c) (h2 : gI s 49 4 = nI S0) (h3 : ∀ i, i < 17956 → ∃ k, k ≤ S0 ∧ gI s 50 i = nI k) : (∀ k i, ¬ (49 ≤ k ∧ k ≤ 51) → gI (lAk (S0 + 1) L' (pI (pI (pI s 49 5 (nI b1)) 49 6 (nI b2)) 49 4 (nI (S0 + 1)))) k i = gI s k i) ∧ gI (lAk (S0 + 1) L' (pI (pI (pI s 49 5 (nI b1)) 49 6 (nI b2)) 49 4 (nI (S0 + 1)))) 49 4 = nI (S0 + 1) ∧ yLI (c + 1) S (lAk (S0 + 1) L' (pI (pI (pI s 49 5 (nI b1)) 49 6 (nI b2)) 49 4 (nI (S0 + 1)))) := by
  have ho : ∀ k i, ¬ (49 ≤ k ∧ k ≤ 51) → gI (lAk (S0 + 1) L' (pI (pI (pI s 49 5 (nI b1)) 49 6 (nI b2)) 49 4 (nI (S0 + 1)))) k i = gI s k i := fun k i hk => by
    rw [lAk_o (.inl (by omega)), gI_pI, if_neg (by omega), gI_pI, if_neg (by omega), gI_pI, if_neg (by omega)]
  have h4 : gI (lAk (S0 + 1) L' (pI (pI (pI s 49 5 (nI b1)) 49 6 (nI b2)) 49 4 (nI (S0 + 1)))) 49 4 = nI (S0 + 1) := by
    rw [lAk_o (.inr ⟨rfl, by omega⟩), gI_pI, if_pos ⟨rfl, rfl⟩]
  refine ⟨ho, h4, ?_⟩
  obtain ⟨⟨a1, a2⟩, ⟨b1', b2', b3'⟩, d1, ⟨tn, e1, e2, e3⟩, f1, g1, i1, j1⟩ := h
  exact ⟨⟨by rw [ho 0 15 (by omega)]; exact a1, by rw [ho 0 16 (by omega)]; exact a2⟩, ⟨lBy_fr (fun k i hk => ho k i (by omega)) b1', lBy_fr (fun k i hk => ho k i (by omega)) b2', lBy_fr (fun k i hk => ho k i (by omega)) b3'⟩, by rw [ho 56 1 (by omega)]; exact d1, ⟨tn, by omega, lDl_fr (fun i _ => ho 57 i (by omega)) e2, fun hd => by rw [ho 58 6 (by omega)]; exact e3 hd⟩, lFi_fr (fun k i h1 h2 => ho k i (by omega)) f1, lSc_fr (fun k i h1 h2 => ho k i (by omega)) g1, fun i hi j hj => by rw [ho 57 _ (by omega)]; exact i1 i hi j hj, ⟨S0 + 1, by omega, h4, lAk_M h3⟩⟩
theorem L_fits (hw : yWf S) (hc : c ≤ 100000) (h : yLI c S s) (d : Nat) {E : Nat → Nat} (hE : E 1 = 2) (x1 w1 x2 w2 : Int32) : yLr c s E (fLk_fits (d + 23) x1 w1 x2 w2 s) (y_fits x1 w1 x2 w2 S) := by
  have hL := hw.2.2.2.2
  by_cases hx : yNo x1 3
  · have er : y_fits x1 w1 x2 w2 S = (1, 0, S) := if_pos (.inl hx)
    rw [er]
    refine yLr_k (by omega) (eLk_fits (d + 22) _ _ _ _ _ _ ?_)
    rw [Lk_ns, if_pos hx, hE]
    rfl
  · by_cases hx2 : yNo x2 3
    · have er : y_fits x1 w1 x2 w2 S = (1, 0, S) := if_pos (.inr hx2)
      rw [er]
      refine yLr_k (by omega) (eLk_fits (d + 22) _ _ _ _ _ _ ?_)
      rw [Lk_ns, if_neg hx, cG_V, Lk_ns, if_pos hx2, hE]
      rfl
    · have hno : ¬ (yNo x1 3 ∨ yNo x2 3) := fun e => by
        rcases e with e | e
        · exact hx e
        · exact hx2 e
      obtain ⟨n1, m1, rfl⟩ := yNo_n (by omega) hx
      obtain ⟨n2, m2, rfl⟩ := yNo_n (by omega) hx2
      by_cases hd : S.dn = true
      · have er : y_fits (nI n1) w1 (nI n2) w2 S = (0, 0, S) := by unfold y_fits; rw [if_neg hno, if_pos hd]
        rw [er]
        refine yLr_0 ⟨s, eLk_fits (d + 22) _ _ _ _ _ _ ?_, yLI_c (by omega) h, xLk_r⟩
        rw [Lk_ns, if_neg hx, cG_V, Lk_ns, if_neg hx2, cG_V, h.1.2, if_neg (by rw [hd]; decide)]
        rfl
      · have hd0 : S.dn = false := by simpa using hd
        have hsc := h.2.2.2.2.2.1
        rw [yUp_f hd0] at hsc
        by_cases hv : yVa S.fs n1 w1
        · by_cases hv2 : yVa S.fs n2 w2
          · obtain ⟨v1, rfl, _, v3⟩ := yVa_n hL hv
            obtain ⟨v2, rfl, _, v4⟩ := yVa_n hL hv2
            have er : y_fits (nI n1) (nI v1) (nI n2) (nI v2) S = (0, if kFits (yQ (yVd S.fs n1 v1)) (yQ (yVd S.fs n2 v2)) (yX (yVd S.fs n1 v1)) (yX (yVd S.fs n2 v2)) = true then 1 else 0, S) := by
              unfold y_fits
              rw [if_neg hno, if_neg hd, nI_ti2 (by omega), nI_ti2 (by omega), nI_ti2 (by omega), nI_ti2 (by omega), if_pos ⟨hv, hv2⟩]
            rw [er]
            obtain ⟨a1, a2, a3, a4, a5, a6⟩ := Lk_ver hL hsc v3
            obtain ⟨b1, b2, b3, b4, b5, b6⟩ := Lk_ver hL hsc v4
            obtain ⟨S0, m1, m2, m3⟩ := h.2.2.2.2.2.2.2
            obtain ⟨L', hf⟩ := Ma_fit (s := s) a6 b6 (yVb_ok hL v3) (yVb_ok hL v4) m2 (by omega) m3 d (yVk_r a1).2.2.2.2 (yVk_r b1).2.2.2.2
            obtain ⟨g1, g2, g3⟩ := yLI_ft (L' := L') (b1 := yVb S.fs n1 v1) (b2 := yVb S.fs n2 v2) hc h m1 m2 m3
            refine yLr_0 ⟨_, eLk_fits (d + 22) _ _ _ _ _ _ ?_, g3, fun k i hk => g1 k i (by omega)⟩
            rw [Lk_ns, if_neg hx, cG_V, Lk_ns, if_neg hx2, cG_V, h.1.2, if_pos (by rw [hd0]; rfl), Lk_nv hL hsc (d + 22) (by omega), if_pos hv, cG_V, Lk_nv hL hsc (d + 22) (by omega), if_pos hv2, cG_V, a4, cG_I, a5, cG_I, b4, cG_I, b5, cG_I, hf, cG_I]
            by_cases hk : kFits (yQ (yVd S.fs n1 v1)) (yQ (yVd S.fs n2 v2)) (yX (yVd S.fs n1 v1)) (yX (yVd S.fs n2 v2)) = true
            · rw [if_pos hk, rZ1]; rfl
            · rw [if_neg hk, rZ0]; rfl
          · have er : y_fits (nI n1) w1 (nI n2) w2 S = (1, 0, S) := by
              unfold y_fits
              rw [if_neg hno, if_neg hd, nI_ti2 (by omega), nI_ti2 (by omega), if_neg (fun e => hv2 e.2)]
            rw [er]
            refine yLr_k (by omega) (eLk_fits (d + 22) _ _ _ _ _ _ ?_)
            rw [Lk_ns, if_neg hx, cG_V, Lk_ns, if_neg hx2, cG_V, h.1.2, if_pos (by rw [hd0]; rfl), Lk_nv hL hsc (d + 22) (by omega), if_pos hv, cG_V, Lk_nv hL hsc (d + 22) (by omega), if_neg hv2, hE]
            rfl
        · have er : y_fits (nI n1) w1 (nI n2) w2 S = (1, 0, S) := by
            unfold y_fits
            rw [if_neg hno, if_neg hd, nI_ti2 (by omega), nI_ti2 (by omega), if_neg (fun e => hv e.1)]
          rw [er]
          refine yLr_k (by omega) (eLk_fits (d + 22) _ _ _ _ _ _ ?_)
          rw [Lk_ns, if_neg hx, cG_V, Lk_ns, if_neg hx2, cG_V, h.1.2, if_pos (by rw [hd0]; rfl), Lk_nv hL hsc (d + 22) (by omega), if_neg hv, hE]
          rfl
theorem M_fits (hw : yWf S) (h : yMI S s) (d : Nat) (x1 w1 x2 w2 : Int32) : yMr s (fMo_fits (d + 60) x1 w1 x2 w2 s) (y_fits x1 w1 x2 w2 S) := by
  have hL := hw.2.2.2.2
  have hy : ∀ v, yMI S (pI s 67 0 v) := fun v => yMI_0 h
  have hf := h.2.2.2.2.2.1
  have bad : (∀ r, fMo_fits_28 (d + 60) x1 w1 x2 w2 1 s = some r → fMo_fits (d + 60) x1 w1 x2 w2 s = some r) → yMr s (fMo_fits (d + 60) x1 w1 x2 w2 s) (1, 0, S) := fun go => by
    refine ⟨pI s 67 0 (nI 1), go _ (eMo_fits_28 (d + 59) _ _ _ _ _ _ _ ?_), by rw [gI_pI, if_pos ⟨rfl, rfl⟩], hy _, xMo_0⟩
    have e0 : fMo_refused (d + 59) 1 0 s = rI 1 (pI s 67 0 (nI 1)) := Mo_ref (d + 59) (a := true) (b := false)
    rw [e0, cG_I, if_pos (by decide)]
    rfl
  have e0 : fMo_refused (d + 59) 0 0 s = rI 0 (pI s 67 0 (nI 0)) := Mo_ref (d + 59) (a := false) (b := false)
  have i1 : ∀ x : Int32, fMo_isSubject (d + 59) x s = rI (uB (decide (¬ yNo x 3))) s := fun x => Mo_isS (d + 58)
  by_cases hx : yNo x1 3
  · have er : y_fits x1 w1 x2 w2 S = (1, 0, S) := if_pos (.inl hx)
    rw [er]
    refine bad (fun r hr => eMo_fits (d + 59) _ _ _ _ _ _ ?_)
    rw [i1, cG_I, show decide (¬ yNo x1 3) = false from decide_eq_false (fun e => e hx), if_pos (by decide)]
    refine eMo_fits_6 (d + 59) _ _ _ _ _ _ (eMo_fits_9 (d + 59) _ _ _ _ _ _ _ ?_)
    rw [if_pos (by decide)]
    exact eMo_fits_25 (d + 59) _ _ _ _ _ _ hr
  · by_cases hx2 : yNo x2 3
    · have er : y_fits x1 w1 x2 w2 S = (1, 0, S) := if_pos (.inr hx2)
      rw [er]
      refine bad (fun r hr => eMo_fits (d + 59) _ _ _ _ _ _ ?_)
      rw [i1, cG_I, show decide (¬ yNo x1 3) = true from decide_eq_true hx, if_neg (by decide), i1, cG_I, show decide (¬ yNo x2 3) = false from decide_eq_false (fun e => e hx2), if_neg (by decide)]
      refine eMo_fits_6 (d + 59) _ _ _ _ _ _ (eMo_fits_9 (d + 59) _ _ _ _ _ _ _ ?_)
      rw [if_pos (by decide)]
      exact eMo_fits_25 (d + 59) _ _ _ _ _ _ hr
    · have hno : ¬ (yNo x1 3 ∨ yNo x2 3) := fun e => by
        rcases e with e | e
        · exact hx e
        · exact hx2 e
      have g9 : ∀ r, fMo_fits_9 (d + 60) x1 w1 x2 w2 0 s = some r → fMo_fits (d + 60) x1 w1 x2 w2 s = some r := fun r hr => by
        refine eMo_fits (d + 59) _ _ _ _ _ _ ?_
        rw [i1, cG_I, show decide (¬ yNo x1 3) = true from decide_eq_true hx, if_neg (by decide), i1, cG_I, show decide (¬ yNo x2 3) = true from decide_eq_true hx2, if_pos (by decide)]
        exact hr
      obtain ⟨n1, m1, rfl⟩ := yNo_n (by omega) hx
      obtain ⟨n2, m2, rfl⟩ := yNo_n (by omega) hx2
      by_cases hd : S.dn = true
      · have er : y_fits (nI n1) w1 (nI n2) w2 S = (0, 0, S) := by unfold y_fits; rw [if_neg hno, if_pos hd]
        rw [er]
        refine ⟨pI s 67 0 (nI 0), g9 _ (eMo_fits_9 (d + 59) _ _ _ _ _ _ _ ?_), by rw [gI_pI, if_pos ⟨rfl, rfl⟩], hy _, xMo_0⟩
        rw [if_neg (by decide), h.1.2, if_pos (by rw [hd]; decide)]
        refine eMo_fits_27 (d + 59) _ _ _ _ _ _ (eMo_fits_28 (d + 59) _ _ _ _ _ _ _ ?_)
        rw [e0, cG_I, if_neg (fun e => e rfl), (hy _).1.2, if_neg (by rw [hd]; decide)]
        rfl
      · have hd0 : S.dn = false := by simpa using hd
        by_cases hv : yVa S.fs n1 w1
        · by_cases hv2 : yVa S.fs n2 w2
          · have g28 : ∀ r, fMo_fits_28 (d + 60) (nI n1) w1 (nI n2) w2 0 s = some r → fMo_fits (d + 60) (nI n1) w1 (nI n2) w2 s = some r := fun r hr => by
              refine g9 r (eMo_fits_9 (d + 59) _ _ _ _ _ _ _ ?_)
              rw [if_neg (by decide), h.1.2, if_neg (by rw [hd0]; decide), Mo_isv hL hf (d + 57) (by omega), cG_I, show decide (yVa S.fs n1 w1) = true from decide_eq_true hv, if_neg (by decide), Mo_isv hL hf (d + 57) (by omega), cG_I, show decide (yVa S.fs n2 w2) = true from decide_eq_true hv2, if_pos (by decide)]
              exact eMo_fits_27 (d + 59) _ _ _ _ _ _ hr
            obtain ⟨v1, rfl, _, v3⟩ := yVa_n hL hv
            obtain ⟨v2, rfl, _, v4⟩ := yVa_n hL hv2
            have er : y_fits (nI n1) (nI v1) (nI n2) (nI v2) S = (0, if kFits (yQ (yVd S.fs n1 v1)) (yQ (yVd S.fs n2 v2)) (yX (yVd S.fs n1 v1)) (yX (yVd S.fs n2 v2)) = true then 1 else 0, S) := by
              unfold y_fits
              rw [if_neg hno, if_neg hd, nI_ti2 (by omega), nI_ti2 (by omega), nI_ti2 (by omega), nI_ti2 (by omega), if_pos ⟨hv, hv2⟩]
            rw [er]
            obtain ⟨s1, q1, q2, q3, q4, _⟩ := Mo_rdv hL (hy (nI 0)) v3 (.inl rfl) d
            have hs1 : yMI S s1 := yMI_fr (fun k i hk hn => (q2 k i (by
              by_cases e : 91 ≤ k ∧ k < 113
              · exact absurd (show xTm k i by unfold xTm; omega) hn
              · omega)).1) (hy (nI 0))
            obtain ⟨s2, p1, p2, p3, p4, _⟩ := Mo_rdv hL hs1 v4 (.inr rfl) d
            have hs2 : yMI S s2 := yMI_fr (fun k i hk hn => (p2 k i (by
              by_cases e : 113 ≤ k ∧ k < 135
              · exact absurd (show xTm k i by unfold xTm; omega) hn
              · omega)).1) hs1
            have w1' : mW 91 (yQ (yVd S.fs n1 v1)) (yT (yVd S.fs n1 v1)) (yN (yVd S.fs n1 v1)) (yM (yVd S.fs n1 v1)) (yL (yVd S.fs n1 v1)) (yVd S.fs n1 v1).length s2 := by
              obtain ⟨hc, ⟨a1, a2, a3, a4⟩, ⟨t1, t2⟩, hr⟩ := q4
              have hh : ∀ k i, 91 ≤ k → k < 113 → gI s2 k i = gI s1 k i ∧ gL s2 k i = gL s1 k i := fun k i a b => p2 k i (by omega)
              refine ⟨hc, ⟨by rw [(hh _ _ (by omega) (by omega)).1]; exact a1, fun x hx => ?_, fun x h6 hx => ?_, fun i hi => ?_⟩, ⟨fun i hi => ?_, fun i hi => by rw [(hh _ _ (by omega) (by omega)).1]; exact t2 i hi⟩, hr⟩
              · rw [(hh _ _ (by omega) (by omega)).1, (hh _ _ (by omega) (by omega)).1, (hh _ _ (by omega) (by omega)).1]; exact a2 x hx
              · rw [(hh _ _ (by omega) (by omega)).1, (hh _ _ (by omega) (by omega)).1, (hh _ _ (by omega) (by omega)).1]; exact a3 x h6 hx
              · rw [(hh _ _ (by omega) (by omega)).1, (hh _ _ (by omega) (by omega)).1, (hh _ _ (by omega) (by omega)).1, (hh _ _ (by omega) (by omega)).1]; exact a4 i hi
              · rw [(hh _ _ (by omega) (by omega)).1, (hh _ _ (by omega) (by omega)).1, (hh _ _ (by omega) (by omega)).1, (hh _ _ (by omega) (by omega)).1, (hh _ _ (by omega) (by omega)).1, (hh _ _ (by omega) (by omega)).2]; exact t1 i hi
            have b1 := (hL.2.2.1 _ ((yVf_iff hL).2 v3).1 ((yVf_iff hL).2 v3).2.1.2).1
            have b2 := (hL.2.2.1 _ ((yVf_iff hL).2 v4).1 ((yVf_iff hL).2 v4).2.1.2).1
            obtain ⟨L', hfit⟩ := Mo_fit (s := s2) w1' p4 (d + 39) (yVk_r b1).2.2.2.2 (yVk_r b2).2.2.2.2 (by rw [(p2 91 31 (by omega)).1]; exact q3) p3
            have ho : ∀ k i, k ≠ 145 → k ≠ 146 → ¬ (k = 67 ∧ i = 30) → gI (mAk L' (mCl 19600 s2)) k i = gI s2 k i := fun k i a b c => by
              rw [mAk_o (by omega), mCl_o a]
            refine ⟨mAk L' (mCl 19600 s2), g28 _ (eMo_fits_28 (d + 59) _ _ _ _ _ _ _ ?_), ?_, yMI_fr (fun k i hk hn => ho k i (fun e => hn (by unfold xTm; omega)) (fun e => hn (by unfold xTm; omega)) (fun e => hn (by unfold xTm; omega))) hs2, fun k i hk => ?_, by
              show s2.2.2.2 ≤ _
              rw [Mo_rdvU hL hs1 v4 (.inr rfl) d p1, Mo_rdvU hL (hy (nI 0)) v3 (.inl rfl) d q1]
              exact Nat.le_add_right _ _, (p2 149 0 (by omega)).2.trans (q2 149 0 (by omega)).2⟩
            · rw [e0, cG_I, if_neg (fun e => e rfl), (hy _).1.2, if_pos (by rw [hd0]; rfl), q1, cG_V, p1, cG_V, show d + 59 = d + 39 + 20 by omega, hfit, cG_I]
              by_cases hk : kFits (yQ (yVd S.fs n1 v1)) (yQ (yVd S.fs n2 v2)) (yX (yVd S.fs n1 v1)) (yX (yVd S.fs n2 v2)) = true
              · rw [if_pos hk, rZ1]; rfl
              · rw [if_neg hk, rZ0]; rfl
            · rw [ho 67 0 (by omega) (by omega) (by omega), (p2 67 0 (by omega)).1, (q2 67 0 (by omega)).1, gI_pI, if_pos ⟨rfl, rfl⟩]
            · rw [ho k i (by omega) (by omega) (by omega), (p2 k i (by omega)).1, (q2 k i (by omega)).1, gI_pI, if_neg (by omega)]
          · have er : y_fits (nI n1) w1 (nI n2) w2 S = (1, 0, S) := by
              unfold y_fits
              rw [if_neg hno, if_neg hd, nI_ti2 (by omega), nI_ti2 (by omega), if_neg (fun e => hv2 e.2)]
            rw [er]
            refine bad (fun r hr => g9 r (eMo_fits_9 (d + 59) _ _ _ _ _ _ _ ?_))
            rw [if_neg (by decide), h.1.2, if_neg (by rw [hd0]; decide), Mo_isv hL hf (d + 57) (by omega), cG_I, show decide (yVa S.fs n1 w1) = true from decide_eq_true hv, if_neg (by decide), Mo_isv hL hf (d + 57) (by omega), cG_I, show decide (yVa S.fs n2 w2) = false from decide_eq_false hv2, if_neg (by decide)]
            exact eMo_fits_25 (d + 59) _ _ _ _ _ _ hr
        · have er : y_fits (nI n1) w1 (nI n2) w2 S = (1, 0, S) := by
            unfold y_fits
            rw [if_neg hno, if_neg hd, nI_ti2 (by omega), nI_ti2 (by omega), if_neg (fun e => hv e.1)]
          rw [er]
          refine bad (fun r hr => g9 r (eMo_fits_9 (d + 59) _ _ _ _ _ _ _ ?_))
          rw [if_neg (by decide), h.1.2, if_neg (by rw [hd0]; decide), Mo_isv hL hf (d + 57) (by omega), cG_I, show decide (yVa S.fs n1 w1) = false from decide_eq_false hv, if_pos (by decide)]
          exact eMo_fits_25 (d + 59) _ _ _ _ _ _ hr
end
