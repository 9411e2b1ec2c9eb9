/-! read -/
def yRo (S : yS) (M : List Nat) (b : Bool) : Nat × Int32 × yS := if M.length ≤ 4096 then (if b = true then (0, nI M.length, S.sou M) else (0, -20, S.sou [])) else (0, -31, S.sou [])
/-- row i of a file, told -/
def yTd (L : List yFi) (n : Nat) (R : List Nat) (f : yFi) (g : Nat → Nat) (i : Nat) (M : List Nat) (b : Bool) : Prop := kTr (yQ (yVd L n f.2.1)) (yQ R) (yW R) (yB f.2.2.2.2.2) f.2.2.2.2.2.length 32 (yX (yVd L n f.2.1)) (yX R) (g i) (g (i + 1)) M b
def yRj (L : List yFi) (n : Nat) (f : yFi) (g : Nat → Nat) : Prop := yRg f.2.2.2.2.2 (yQ (yVd L n f.2.1)) (yX (yVd L n f.2.1)) (f.2.2.2.2.1 - 1) g
def y_read (x w i : Int32) (S : yS) (r : Nat × Int32 × yS) : Prop := if yNo x 3 then r = (1, 0, S) else if S.dn = true then r = (0, -33, S) else if yVa S.fs x.toInt.toNat w ∧ ¬ i < 0 ∧ i < nI (yRs S.fs x.toInt.toNat S.fs.length) then ∃ g M b, yRj S.fs x.toInt.toNat (S.fs.getD (yFo S.fs x.toInt.toNat i.toInt.toNat - 1) yF0) g ∧ yTd S.fs x.toInt.toNat (yVd S.fs x.toInt.toNat w.toInt.toNat) (S.fs.getD (yFo S.fs x.toInt.toNat i.toInt.toNat - 1) yF0) g (i.toInt.toNat - yRs S.fs x.toInt.toNat (yFo S.fs x.toInt.toNat i.toInt.toNat - 1)) M b ∧ r = yRo S M b else r = (1, 0, S)
section
variable {c : Nat} {S : yS} {s : aT} {L : List yFi}
theorem y_read_gt {x w i : Int32} {r : Nat × Int32 × yS} (h : y_read x w i S r) : yGt x w S (1, 0, S) (0, -33, S) (fun _ _ => r) = r := by
  unfold y_read at h
  unfold yGt
  by_cases hx : yNo x 3
  · rw [if_pos hx] at h ⊢; exact h.symm
  · rw [if_neg hx] at h ⊢
    by_cases hd : S.dn = true
    · rw [if_pos hd] at h ⊢; exact h.symm
    · rw [if_neg hd] at h ⊢
      by_cases hv : yVa S.fs x.toInt.toNat w
      · rw [if_pos hv]
      · rw [if_neg (fun e => hv e.1)] at h
        rw [if_neg hv]; exact h.symm
theorem yRs_40 (hL : yLw L) (n : Nat) {k : Nat} (hk : k ≤ L.length) : yRs L n k ≤ 163840 := by
  have h1 := yRs_le hL.1 n k hk
  have := hL.1.1
  omega
/-- there is always an answer -/
theorem y_read_ex (hw : yWf S) (x w i : Int32) : ∃ r, y_read x w i S r := by
  have hL := hw.2.2.2.2
  unfold y_read
  by_cases hx : yNo x 3
  · exact ⟨(1, 0, S), by rw [if_pos hx]⟩
  · by_cases hd : S.dn = true
    · exact ⟨(0, -33, S), by rw [if_neg hx, if_pos hd]⟩
    · by_cases hv : yVa S.fs x.toInt.toNat w ∧ ¬ i < 0 ∧ i < nI (yRs S.fs x.toInt.toNat S.fs.length)
      · obtain ⟨n, n1, rfl⟩ := yNo_n (by omega) hx
        obtain ⟨e1, e2⟩ := nI_tn hv.2.1
        have h40 := yRs_40 hL (nI n).toInt.toNat (Nat.le_refl S.fs.length)
        have hlt : i.toInt.toNat < yRs S.fs (nI n).toInt.toNat S.fs.length := by
          have := hv.2.2
          rw [e1, nI_ltE (by omega) (by omega)] at this
          exact this
        obtain ⟨f1, f2, f3, f4⟩ := yFo_at (yFo_0.mpr hlt)
        obtain ⟨r1, r2, r3, r4⟩ := yRow hL f1 f2
        obtain ⟨g, hg⟩ := yRw_g r4
        have e : yRs S.fs (nI n).toInt.toNat (yFo S.fs (nI n).toInt.toNat i.toInt.toNat - 1 + 1) = yRs S.fs (nI n).toInt.toNat (yFo S.fs (nI n).toInt.toNat i.toInt.toNat - 1) + (if yIs (S.fs.getD (yFo S.fs (nI n).toInt.toNat i.toInt.toNat - 1) yF0) (nI n).toInt.toNat then (S.fs.getD (yFo S.fs (nI n).toInt.toNat i.toInt.toNat - 1) yF0).2.2.2.2.1 - 1 else 0) := rfl
        rw [if_pos f2] at e
        obtain ⟨M, b, hM⟩ := kTr_ex (q2 := yQ (yVd S.fs (nI n).toInt.toNat w.toInt.toNat)) (dW := yW (yVd S.fs (nI n).toInt.toNat w.toInt.toNat)) 32 _ (yX (yVd S.fs (nI n).toInt.toNat w.toInt.toNat)) _ _ (hg.2.2 (i.toInt.toNat - yRs S.fs (nI n).toInt.toNat (yFo S.fs (nI n).toInt.toNat i.toInt.toNat - 1)) (by omega))
        exact ⟨yRo S M b, by rw [if_neg hx, if_neg hd, if_pos hv]; exact ⟨g, M, b, hg, hM, rfl⟩⟩
      · exact ⟨(1, 0, S), by rw [if_neg hx, if_neg hd, if_neg hv]⟩
/-- bytes told -/
theorem yTd_bt {n : Nat} {R : List Nat} (hR : yVk R) {f : yFi} (hf : kBt f.2.2.2.2.2) {g : Nat → Nat} {i : Nat} {M : List Nat} {b : Bool} (h : yTd L n R f g i M b) : kBt M := by
  obtain ⟨g1, g2, g3, g4, g5⟩ := yVk_g hR
  exact kTr_bt (yB_bt hf) (kVe_iv g2.1) (kSq_cd (kVe_sq (T := yT R) (N := yN R) (q0 := (yRd R).2.1)) g2.2.1) (kVe_kdx g1 g2 g3) 32 _ _ _ _ _ _ (yVk_r hR).2.2.2.2 h
/-- the lake: rows are skipped, one is told -/
theorem Lk_sk {q : kP} {T : Nat → Nat → Nat} {m b pb qb A lim x : Nat} {B : Nat → Nat} {t : aT} (hi : lTi A B lim t) (hw : lW b pb qb q T m t) (hx : x < q.1 1) {C : List Nat} {st : Nat} (hC : kBt C) (hs : ∀ j, j < C.length → B (st + j) = C.getD j 0) (hn : st + C.length ≤ lim) {k : Nat} {g : Nat → Nat} (hg : yRg C q x k g) (d : Nat) {x1 x2 : Int32} {bef rest : Nat} (hrest : rest ≤ k) (hsm : bef + rest < 2147483648) : ∀ j r, r + j = rest → ∀ R, fLk_read_43 (d + 87) x1 x2 (nI (bef + rest)) (nI (lo b x)) (nI (bef + rest)) (oT (st + g rest) t) = some R → fLk_read_43 (d + 87) x1 x2 (nI (bef + rest)) (nI (lo b x)) (nI (bef + r)) (oT (st + g r) t) = some R := by
  intro j
  induction j with
  | zero =>
    intro r hr R hR
    rw [show r = rest by omega]
    exact hR
  | succ j ih =>
    intro r hr R hR
    have hkw := kWq_sh (yB_bt hC) (B' := B) (off := st) hs hn 32 x (g r) (g (r + 1)) (hg.2.2 r (by omega))
    have hsk := Te_sk hi hw 32 (d + 18) x 0 (st + g r) (st + g (r + 1)) hx (by omega) hkw
    have hsr : fTe_skipRow (d + 86) (nI (lo b x)) (oT (st + g r) t) = rV (oT (st + g (r + 1)) t) := by
      refine eTe_skipRow (d + 85) _ _ _ ?_
      rw [show d + 85 = 2 * 32 + 3 + (d + 18) by omega, show (0 : Int32) = nI 0 from rfl, hsk, cG_V]
      rfl
    refine eLk_read_43 (d + 86) _ _ _ _ _ _ _ ?_
    rw [if_neg (show ¬ nI (bef + rest) ≤ nI (bef + r) by rw [nI_leE (by omega) (by omega)]; omega), hsr, cG_V, nI_add1, show bef + r + 1 = bef + (r + 1) by omega]
    exact ih (r + 1) (by omega) R hR
theorem pI_52 {a : Nat} {t : aT} (h : gI t 52 0 = nI a) : oT a t = t := by
  refine aT_ext (fun k i => ?_) (fun _ _ => rfl) rfl
  unfold oT
  rw [gI_pI]
  by_cases e : k = 52 ∧ i = 0
  · rw [if_pos e, e.1, e.2, h]
  · rw [if_neg e]
theorem yLC_V (h : yLC c S s) : ∀ i, i < 32768 → ∃ v, v < 256 ∧ gI s 57 i = mI v := fun i hi => by
  obtain ⟨tn, _, ⟨V, v1, _⟩, _⟩ := h.2.2.2.1
  exact ⟨V i, (v1 i hi).2, (v1 i hi).1⟩
theorem Lk_rde {s1 t' : aT} (h : yLI c S s) (o4 : ∀ k i, ¬ (46 ≤ k ∧ k ≤ 48) → k ≠ 52 → gI s1 k i = gI s k i) (q1 : lQ 0 (pM3 s1 5) t') {a' : Nat} {L' : List Nat} : yLI (c + 1) (S.sou []) (pI (oT a' (oB 5 L' t')) 5 1 0) ∧ xLk s (pI (oT a' (oB 5 L' t')) 5 1 0) := by
  have ho : ∀ k i, ¬ (46 ≤ k ∧ k ≤ 48) → k ≠ 52 → k ≠ 53 → k ≠ 5 → k ≠ 6 → gI (pI (oT a' (oB 5 L' t')) 5 1 0) k i = gI s k i := fun k i h1 h2 h3 h4 h5 => by
    rw [gI_pI, if_neg (by omega), oT_o (by omega), oB_o h4 (by omega), q1.1 k i (.inl h3)]
    show gI s1 k i = _
    exact o4 k i h1 h2
  exact ⟨yLI_ch (tp := S.tp) (pl := S.pl) (ou := []) (pc := S.pc) (fun k i hk hn => ho k i (fun e => hn (by unfold xTw xTr; omega)) (fun e => hn (by unfold xTw xTr; omega)) (fun e => hn (by unfold xTw xTr; omega)) (fun e => hn (by unfold xTw; omega)) (fun e => hn (by unfold xTw; omega))) (by omega) (lBy_fr (fun k i hk => ho k i (by omega) (by omega) (by omega) (by omega) (by omega)) h.2.1.1) (lBy_fr (fun k i hk => ho k i (by omega) (by omega) (by omega) (by omega) (by omega)) h.2.1.2.1) lBy_e (by rw [ho 0 15 (by omega) (by omega) (by omega) (by omega) (by omega)]; exact h.1.1) h, fun k i hk => ho k i (by omega) (by omega) (by omega) (by omega) (by omega)⟩
theorem L_read (hw : yWf S) (h : yLI c S s) (d : Nat) {E : Nat → Nat} (hE : E 1 = 2) (x w i : Int32) {r : Nat × Int32 × yS} (hr : y_read x w i S r) : yLr c s E (fLk_read (d + 88) x w i s) r := by
  have hgt := y_read_gt hr
  rw [← hgt]
  refine yLr_go (Lk_gt hw h (d + 87) hE (K := fun s2 => cG (fFl_fileOfRow (d + 87) x i s2) (kI fun v4 s3 => if ¬ v4 = (-1) then ldI 40 s3 60 v4 (fun v5 => cG (fSc_rootOf (d + 87) x v5 s3) (kI fun v7 s6 => cG (fLk_openRows (d + 87) v4 s6) (kV fun s8 => cG (fFl_rowsBefore (d + 87) v4 s8) (kI fun v10 s9 => fLk_read_43 (d + 88) x w i v7 v10 s9)))) else rX 2 s3)) (fun n v hn hv ex ew hd hvf => ?_)) (fun r hr => eLk_read (d + 87) _ _ _ _ _ hr)
  have hL := hw.2.2.2.2
  have hsc := h.2.2.2.2.2.1
  have hfi := h.2.2.2.2.1
  rw [yUp_f hd] at hsc hfi
  have h40 := hL.1.1
  have hrs := yRs_40 hL n (Nat.le_refl S.fs.length)
  subst ex ew
  unfold y_read at hr
  rw [if_neg (yNo_of (by omega) (by omega)), if_neg (by rw [hd]; decide), nI_ti2 (by omega), nI_ti2 (by omega)] at hr
  have hva := (yVa_of hL hvf).1
  show yLr c s E (cG (fFl_fileOfRow (d + 87) (nI n) i s) _) _
  by_cases hi0 : i < 0
  · rw [if_neg (fun e => e.2.1 hi0)] at hr
    rw [hr, Fl_frN (d + 86) hi0, cG_I, if_neg (fun e => e rfl)]
    exact yLr_k (by omega) (by rw [hE])
  · obtain ⟨e1, e2⟩ := nI_tn hi0
    by_cases hlt : i.toInt.toNat < yRs S.fs n S.fs.length
    · rw [if_pos ⟨hva, hi0, by rw [e1, nI_ltE (by omega) (by omega)]; exact hlt⟩] at hr
      obtain ⟨g, M, b, hg, hM, hr⟩ := hr
      generalize i.toInt.toNat = ii at *
      subst e1
      obtain ⟨f1, f2, f3, f4⟩ := yFo_at (yFo_0.mpr hlt)
      have hfo := Fl_fr hfi hL.1 (d + 86) (x := n) (i := ii) hn (by omega)
      have hfne := yFo_0.mpr hlt
      generalize hkk : yFo S.fs n ii - 1 = kk at *
      rw [zI_pos (by omega), hkk] at hfo
      obtain ⟨r1, r2, r3, r4⟩ := yRow hL f1 f2
      have e : yRs S.fs n (kk + 1) = yRs S.fs n kk + (if yIs (S.fs.getD kk yF0) n then (S.fs.getD kk yF0).2.2.2.2.1 - 1 else 0) := rfl
      rw [if_pos f2] at e
      obtain ⟨a1, a2, a3, a4, a5, a6⟩ := Lk_ver hL hsc r1
      obtain ⟨b1, b2, b3, b4, b5, b6⟩ := Lk_ver hL hsc hvf
      obtain ⟨s1, o1, o2, o3, o4, o5⟩ := Lk_or hL h.2.2.2.2.2.2.1 hfi (yLC_V (yLC_of h)) f1 f2.2 (d + 85)
      have ww1 : lW (yVb S.fs n (S.fs.getD kk yF0).2.1) (yP0 S.fs (yVf S.fs n (S.fs.getD kk yF0).2.1 - 1)) (yQ0 S.fs (yVf S.fs n (S.fs.getD kk yF0).2.1 - 1)) (yQ (yVd S.fs n (S.fs.getD kk yF0).2.1)) (yT (yVd S.fs n (S.fs.getD kk yF0).2.1)) (yM (yVd S.fs n (S.fs.getD kk yF0).2.1)) s1 := lW_fr (fun k i h1 h2 => o4 k i (by omega) (by omega)) a6
      have ww2 : lW (yVb S.fs n v) (yP0 S.fs (yVf S.fs n v - 1)) (yQ0 S.fs (yVf S.fs n v - 1)) (yQ (yVd S.fs n v)) (yT (yVd S.fs n v)) (yM (yVd S.fs n v)) s1 := lW_fr (fun k i h1 h2 => o4 k i (by omega) (by omega)) b6
      have hsc1 : lSc S.fs s1 := lSc_fr (fun k i h1 h2 => o4 k i (by omega) (by omega)) hsc
      have hfi1 : lFi S.fs s1 := lFi_fr (fun k i h1 h2 => o4 k i (by omega) (by omega)) hfi
      obtain ⟨l1, l2, l3, l4, l5⟩ := hfi.2 kk f1
      have hrb := Fl_rb hfi1 hL.1 (d + 85) f1
      rw [f2.1] at hrb
      -- the place of the row
      have hs1 : oT (256 * (S.fs.getD kk yF0).2.2.1 + yPa (S.fs.getD kk yF0) + g 0) s1 = s1 := pI_52 (by rw [hg.1, Nat.add_zero]; exact o3)
      have hx1 : yX (yVd S.fs n (S.fs.getD kk yF0).2.1) < (yQ (yVd S.fs n (S.fs.getD kk yF0).2.1)).1 1 := (yVk_r a1).2.2.2.2
      have hkw := kWq_sh (yB_bt r2) (B' := fun j => iM (gI s 57 j)) (off := 256 * (S.fs.getD kk yF0).2.2.1 + yPa (S.fs.getD kk yF0)) (n' := 256 * (S.fs.getD kk yF0).2.2.1 + yPa (S.fs.getD kk yF0) + (S.fs.getD kk yF0).2.2.2.2.2.length) o5 (Nat.le_refl _) 32 _ _ _ (hg.2.2 (ii - yRs S.fs n kk) (by omega))
      have hkt := kTr_sh (yB_bt r2) (B' := fun j => iM (gI s 57 j)) (off := 256 * (S.fs.getD kk yF0).2.2.1 + yPa (S.fs.getD kk yF0)) (n' := 256 * (S.fs.getD kk yF0).2.2.1 + yPa (S.fs.getD kk yF0) + (S.fs.getD kk yF0).2.2.2.2.2.length) o5 (Nat.le_refl _) 32 _ _ _ _ _ _ (hg.2.2 (ii - yRs S.fs n kk) (by omega)) hM
      have hbt := yTd_bt b1 r2 hM
      have hrest : yRs S.fs n kk + (ii - yRs S.fs n kk) = ii := by omega
      have hsk := Lk_sk o2 ww1 hx1 r2 (st := 256 * (S.fs.getD kk yF0).2.2.1 + yPa (S.fs.getD kk yF0)) o5 (Nat.le_refl _) hg (d + 1) (x1 := nI n) (x2 := nI v) (bef := yRs S.fs n kk) (rest := ii - yRs S.fs n kk) (by omega) (by omega) (ii - yRs S.fs n kk) 0 (by omega)
      rw [hrest, Nat.add_zero, hs1] at hsk
      generalize 256 * (S.fs.getD kk yF0).2.2.1 + yPa (S.fs.getD kk yF0) = st at *
      -- the state in which it is told
      have hlt2 : lTi 57 (fun j => iM (gI s 57 j)) (st + (S.fs.getD kk yF0).2.2.2.2.2.length) (pM3 s1 5) := o2
      have hltc : lTc 57 (fun j => iM (gI s 57 j)) (st + (S.fs.getD kk yF0).2.2.2.2.2.length) 5 (pM3 s1 5) := ⟨hlt2, rfl, by unfold isB; decide, .inl rfl, ⟨by omega, by omega⟩, rfl⟩
      have htl := Te_tl (c := 5) (s := s1) (A := 57) (kVe_kdx (yVk_g b1).1 (yVk_g b1).2.1 (yVk_g b1).2.2.1) hltc ww1 ww2 (d + 1) (L := []) (by show 0 ≤ 4096; omega) hx1 (yVk_r b1).2.2.2.2 (Nat.le_refl 32) hkw hkt
      rw [show 2 * 32 + 22 + (d + 1) = d + 87 by omega] at htl
      have go : ∀ R, cG (fTe_tell (d + 87) (nI (lo (yVb S.fs n (S.fs.getD kk yF0).2.1) (yX (yVd S.fs n (S.fs.getD kk yF0).2.1)))) (nI (lo (yVb S.fs n v) (yX (yVd S.fs n v)))) 5 (oT (st + g (ii - yRs S.fs n kk)) (oB 5 [] s1))) (kI fun v5 s4 => if v5 = 0 then rI (gI s4 5 1) s4 else wI s4 5 1 0 (fun s6 => rI v5 s6)) = some R → cG (fFl_fileOfRow (d + 87) (nI n) (nI ii) s) (kI fun v4 s3 => if ¬ v4 = (-1) then ldI 40 s3 60 v4 (fun v5 => cG (fSc_rootOf (d + 87) (nI n) v5 s3) (kI fun v7 s6 => cG (fLk_openRows (d + 87) v4 s6) (kV fun s8 => cG (fFl_rowsBefore (d + 87) v4 s8) (kI fun v10 s9 => fLk_read_43 (d + 88) (nI n) (nI v) (nI ii) v7 v10 s9)))) else rX 2 s3) = some R := fun R hR => by
        rw [hfo, cG_I, if_pos (nI_nm (by omega)), ldI_n (by omega) (by omega), l2, a4, cG_I, o1, cG_V, hrb, cG_I]
        refine hsk R (eLk_read_43 (d + 87) _ _ _ _ _ _ _ ?_)
        have hsc2 : lSc S.fs (oB 5 [] (oT (st + g (ii - yRs S.fs n kk)) s1)) := lSc_fr (fun k i h1 h2 => by rw [oB_o (by omega) (by omega), oT_o (by omega)]) hsc1
        have ecm : oB 5 [] (oT (st + g (ii - yRs S.fs n kk)) s1) = oT (st + g (ii - yRs S.fs n kk)) (oB 5 [] s1) := by
          rw [← oB_nil, ← oB_nil]
          refine aT_ext (fun k i => ?_) (fun _ _ => rfl) rfl
          unfold oT
          rw [gI_pI, gI_pI, gI_pI, gI_pI]
          by_cases h5 : k = 5 ∧ i = 1
          · rw [if_pos h5, if_neg (by omega), if_pos h5]
          · rw [if_neg h5]
            by_cases h52 : k = 52 ∧ i = 0
            · rw [if_pos h52, if_pos h52]
            · rw [if_neg h52, if_neg h52, if_neg h5]
        rw [if_pos (show nI ii ≤ nI ii by rw [nI_leE (by omega) (by omega)]; omega), wI_eq, oB_nil, (Lk_ver hL hsc2 hvf).2.2.2.1, cG_I, ecm]
        exact hR
      -- what is left behind
      have fin : ∀ (t' : aT) (e : Nat) (W : List Nat), kBt W → W.length ≤ 4096 → lQ 0 (pM3 s1 5) t' → yLI (c + 1) (S.sou W) (oT e (oB 5 W t')) ∧ xLk s (oT e (oB 5 W t')) := by
        intro t' e W hb hl hq
        have ho : ∀ k i, ¬ (46 ≤ k ∧ k ≤ 48) → k ≠ 52 → k ≠ 53 → k ≠ 5 → k ≠ 6 → gI (oT e (oB 5 W t')) k i = gI s k i := fun k i h1 h2 h3 h4 h5 => by
          rw [oT_o (by omega), oB_o h4 (by omega), hq.1 k i (.inl h3)]
          show gI s1 k i = _
          exact o4 k i h1 h2
        refine ⟨yLI_ch (tp := S.tp) (pl := S.pl) (ou := W) (pc := S.pc) (fun k i hk hn => ho k i (fun e => hn (by unfold xTw xTr; omega)) (fun e => hn (by unfold xTw xTr; omega)) (fun e => hn (by unfold xTw xTr; omega)) (fun e => hn (by unfold xTw; omega)) (fun e => hn (by unfold xTw; omega))) (by omega) (lBy_fr (fun k i hk => ho k i (by omega) (by omega) (by omega) (by omega) (by omega)) h.2.1.1) (lBy_fr (fun k i hk => ho k i (by omega) (by omega) (by omega) (by omega) (by omega)) h.2.1.2.1) ?_ (by rw [ho 0 15 (by omega) (by omega) (by omega) (by omega) (by omega)]; exact h.1.1) h, fun k i hk => ho k i (by omega) (by omega) (by omega) (by omega) (by omega)⟩
        exact lBy_fr (fun k i hk => oT_o (by omega)) (lBy_oB hb hl)
      rw [hr]
      unfold lTy at htl
      rw [show ([] : List Nat).length + M.length = M.length from Nat.zero_add _, show alen (5 + 1) = 4096 from rfl] at htl
      unfold yRo
      by_cases hq : M.length ≤ 4096
      · rw [if_pos hq] at htl ⊢
        cases b with
        | true =>
          rw [if_pos rfl] at htl ⊢
          obtain ⟨t', q1, q2⟩ := htl
          obtain ⟨z1, z2⟩ := fin t' (st + g (ii - yRs S.fs n kk + 1)) M hbt hq q1
          refine yLr_0 ⟨_, go _ ?_, z1, z2⟩
          rw [q2, cG_I, if_pos rfl, oT_o (by omega), List.nil_append, oB_n]
          rfl
        | false =>
          rw [if_neg (by decide)] at htl ⊢
          obtain ⟨t', a', L', q1, q2⟩ := htl
          obtain ⟨z1, z2⟩ := Lk_rde h o4 q1 (a' := a') (L' := L')
          refine yLr_0 ⟨_, go _ ?_, z1, z2⟩
          rw [q2, cG_I, if_neg (by decide), wI_eq]
          rfl
      · rw [if_neg hq] at htl ⊢
        obtain ⟨t', a', L', q1, q2⟩ := htl
        obtain ⟨z1, z2⟩ := Lk_rde h o4 q1 (a' := a') (L' := L')
        refine yLr_0 ⟨_, go _ ?_, z1, z2⟩
        rw [q2, cG_I, if_neg (by decide), wI_eq]
        rfl
    · rw [if_neg (fun e => hlt (by have := e.2.2; rw [e1, nI_ltE (by omega) (by omega)] at this; exact this))] at hr
      have hfo := Fl_fr hfi hL.1 (d + 86) (x := n) (i := i.toInt.toNat) hn (by omega)
      rw [← e1] at hfo
      have h0 : yFo S.fs n i.toInt.toNat = 0 := by
        by_cases h0 : yFo S.fs n i.toInt.toNat = 0
        · exact h0
        · exact absurd (yFo_0.mp h0) hlt
      rw [hr, hfo, cG_I, h0, if_neg (fun e => e zI_0)]
      exact yLr_k (by omega) (by rw [hE])
end
