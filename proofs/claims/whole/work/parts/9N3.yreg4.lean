/-! register: the reference -/
section
variable {S : yS} {s : aT} {L : List yFi}
theorem mW_frg {c m l n : Nat} {q : kP} {T : Nat → Nat → Nat} {N : Nat → Int} {s t : aT} (hh : ∀ k i, c ≤ k → k < c + 22 → gI s k i = gI t k i ∧ gL s k i = gL t k i) (hw : mW c q T N m l n t) : mW c q T N m l n s := by
  obtain ⟨hc, ⟨a1, a2, a3, a4⟩, ⟨t1, t2⟩, hr⟩ := hw
  refine ⟨hc, ⟨by rw [(hh _ _ (by omega) (by omega)).1]; exact a1, fun x hx => ?_, fun x h6 hx => ?_, fun i hi => ?_⟩, ⟨fun i hi => ?_, fun i hi => by rw [(hh _ _ (by omega) (by omega)).1]; exact t2 i hi⟩, hr⟩
  · rw [(hh _ _ (by omega) (by omega)).1, (hh _ _ (by omega) (by omega)).1, (hh _ _ (by omega) (by omega)).1]; exact a2 x hx
  · rw [(hh _ _ (by omega) (by omega)).1, (hh _ _ (by omega) (by omega)).1, (hh _ _ (by omega) (by omega)).1]; exact a3 x h6 hx
  · rw [(hh _ _ (by omega) (by omega)).1, (hh _ _ (by omega) (by omega)).1, (hh _ _ (by omega) (by omega)).1, (hh _ _ (by omega) (by omega)).1]; exact a4 i hi
  · rw [(hh _ _ (by omega) (by omega)).1, (hh _ _ (by omega) (by omega)).1, (hh _ _ (by omega) (by omega)).1, (hh _ _ (by omega) (by omega)).1, (hh _ _ (by omega) (by omega)).1, (hh _ _ (by omega) (by omega)).2]; exact t1 i hi
theorem yMI_e (h : yMI S s) : yMI (S.stp []) (pI s 67 2 0) := yMI_ch (s := s) (fun k i hk hn => by rw [gI_pI, if_neg (fun e => hn (by unfold xTn; omega))]) ⟨by rw [gI_pI, if_pos ⟨rfl, rfl⟩]; rfl, fun i hi => absurd hi (Nat.not_lt_zero _)⟩ ⟨by rw [gI_pI, if_neg (by omega)]; exact h.2.2.1.1, fun i hi => by rw [gI_pI, if_neg (by omega)]; exact h.2.2.1.2 i hi⟩ ⟨by rw [gI_pI, if_neg (by omega)]; exact h.2.2.2.1.1, fun i hi => by rw [gI_pI, if_neg (by omega)]; exact h.2.2.2.1.2 i hi⟩ (by rw [gI_pI, if_neg (by omega)]; exact h.1.1) h
/-- what the loop over the versions may change -/
def xRv (k i : Nat) : Prop := 91 ≤ k ∧ k ≤ 112 ∨ k = 145 ∨ k = 146 ∨ k = 67 ∧ i = 30
theorem Mo_kv (hL : yLw S.fs) {s1 : aT} (h : yMI S s1) {n : Nat} {C : List Nat} (hC : yVk C) (hw : mW 69 (yQ C) (yT C) (yN C) (yM C) (yL C) C.length s1) (h31 : gI s1 69 31 = nI (yX C)) (d : Nat) : ∀ k z t, z + k = yVc S.fs n S.fs.length → (∀ k i, ¬ xRv k i → gI t k i = gI s1 k i ∧ gL t k i = gL s1 k i ∧ t.2.2.2 = s1.2.2.2) → if ∀ v, v < yVc S.fs n S.fs.length → z ≤ v → yFv S.fs n C v = true then ∃ t', (∀ k i, ¬ xRv k i → gI t' k i = gI s1 k i ∧ gL t' k i = gL s1 k i ∧ t'.2.2.2 = s1.2.2.2) ∧ ∀ r, fMo_register_31 (d + 60) (nI n) (nI (yVc S.fs n S.fs.length)) (nI (yVc S.fs n S.fs.length)) t' = some r → fMo_register_31 (d + 60) (nI n) (nI (yVc S.fs n S.fs.length)) (nI z) t = some r else ∃ t', (∀ k i, ¬ xRv k i → gI t' k i = gI s1 k i ∧ gL t' k i = gL s1 k i ∧ t'.2.2.2 = s1.2.2.2) ∧ fMo_register_31 (d + 60) (nI n) (nI (yVc S.fs n S.fs.length)) (nI z) t = rI (-30) t' := by
  have hVc := yVc_le (L := S.fs) n S.fs.length
  have h40 := hL.1.1
  intro k
  induction k with
  | zero =>
    intro z t hz ht
    have e : z = yVc S.fs n S.fs.length := by omega
    subst e
    rw [if_pos (fun v a b => by omega)]
    exact ⟨t, ht, fun r hr => hr⟩
  | succ k ih =>
    intro z t hz ht
    have hvf : yVf S.fs n z ≠ 0 := (yVf_iff hL).1.mpr (by omega)
    have hyt : yMI S t := yMI_fr (fun k i hk hn => (ht k i (fun e => hn (by unfold xRv at e; unfold xTm; omega))).1) h
    obtain ⟨s2, q1, q2, q3, q4, _⟩ := Mo_rdv hL hyt hvf (.inl rfl) d
    have b1 := (hL.2.2.1 _ ((yVf_iff hL).2 hvf).1 ((yVf_iff hL).2 hvf).2.1.2).1
    have w2 : mW 69 (yQ C) (yT C) (yN C) (yM C) (yL C) C.length s2 := mW_frg (fun k i a b => by
      have e1 := q2 k i (by omega)
      have e2 := ht k i (by unfold xRv; omega)
      exact ⟨by rw [e1.1, e2.1], by rw [e1.2, e2.2.1]⟩) hw
    obtain ⟨L', hfit⟩ := Mo_fit (s := s2) q4 w2 (d + 39) (yVk_r b1).2.2.2.2 (yVk_r hC).2.2.2.2 q3 (by rw [(q2 69 31 (by omega)).1, (ht 69 31 (by unfold xRv; omega)).1]; exact h31)
    have ho : ∀ k i, ¬ xRv k i → gI (mAk L' (mCl 19600 s2)) k i = gI s1 k i ∧ gL (mAk L' (mCl 19600 s2)) k i = gL s1 k i ∧ (mAk L' (mCl 19600 s2)).2.2.2 = s1.2.2.2 := fun k i hk => by
      have hk' := hk
      unfold xRv at hk
      have e1 := q2 k i (by omega)
      have e2 := ht k i hk'
      refine ⟨by rw [mAk_o (by omega), mCl_o (by omega), e1.1, e2.1], ?_, ?_⟩
      · show gL s2 k i = _
        rw [e1.2, e2.2.1]
      · show s2.2.2.2 = _
        rw [Mo_rdvU hL hyt hvf (.inl rfl) d q1, e2.2.2]
    have go : ∀ r, (if kFits (yQ (yVd S.fs n z)) (yQ C) (yX (yVd S.fs n z)) (yX C) = true then fMo_register_31 (d + 60) (nI n) (nI (yVc S.fs n S.fs.length)) (nI (z + 1)) (mAk L' (mCl 19600 s2)) else rI (-30) (mAk L' (mCl 19600 s2))) = some r → fMo_register_31 (d + 60) (nI n) (nI (yVc S.fs n S.fs.length)) (nI z) t = some r := fun r hr => by
      refine eMo_register_31 (d + 59) _ _ _ _ _ ?_
      rw [if_neg (show ¬ nI (yVc S.fs n S.fs.length) ≤ nI z by rw [nI_leE (by omega) (by omega)]; omega), q1, cG_V, show d + 59 = d + 39 + 20 by omega, hfit, cG_I, nI_add1]
      by_cases hk : kFits (yQ (yVd S.fs n z)) (yQ C) (yX (yVd S.fs n z)) (yX C) = true
      · rw [if_pos hk] at hr ⊢
        rw [if_pos (by decide)]
        exact hr
      · rw [if_neg hk] at hr ⊢
        rw [if_neg (fun e => e rfl)]
        exact hr
    by_cases hk : kFits (yQ (yVd S.fs n z)) (yQ C) (yX (yVd S.fs n z)) (yX C) = true
    · rw [if_pos hk] at go
      have ih' := ih (z + 1) _ (by omega) ho
      by_cases hall : ∀ v, v < yVc S.fs n S.fs.length → z ≤ v → yFv S.fs n C v = true
      · rw [if_pos hall]
        rw [if_pos (fun v a b => hall v a (by omega))] at ih'
        obtain ⟨t', t1, t3⟩ := ih'
        exact ⟨t', t1, fun r hr => go r (t3 r hr)⟩
      · rw [if_neg hall]
        rw [if_neg (fun e => hall (fun v a b => by
          by_cases ez : v = z
          · rw [ez]; exact hk
          · exact e v a (by omega)))] at ih'
        obtain ⟨t', t1, t3⟩ := ih'
        exact ⟨t', t1, go _ t3⟩
    · rw [if_neg hk] at go
      rw [if_neg (fun e => hk (e z (by omega) (Nat.le_refl _)))]
      exact ⟨_, ho, go _ rfl⟩
theorem M_register (hw : yWf S) (h : yMI S s) (d : Nat) (x : Int32) : yMr s (fMo_register (d + 61) x s) (y_register x S) := by
  have hL := hw.2.2.2.2
  have hy : ∀ v, yMI S (pI s 67 0 v) := fun v => yMI_0 h
  by_cases hx : yNo x 3
  · have er : y_register x S = (1, 0, S) := if_pos hx
    rw [er]
    refine ⟨pI s 67 0 (nI 1), eMo_register (d + 60) _ _ _ ?_, by rw [gI_pI, if_pos ⟨rfl, rfl⟩], hy _, xMo_0⟩
    rw [Mo_isS, cG_I, show decide (¬ yNo x 3) = false from decide_eq_false (fun e => e hx), if_neg (by decide)]
    refine eMo_register_7 (d + 60) _ _ _ _ ?_
    have e0 : fMo_refused (d + 60) 1 0 s = rI 1 (pI s 67 0 (nI 1)) := Mo_ref (d + 60) (a := true) (b := false)
    rw [e0, cG_I, if_neg (by decide)]
    rfl
  · have e0 : fMo_refused (d + 60) 0 0 s = rI 0 (pI s 67 0 (nI 0)) := Mo_ref (d + 60) (a := false) (b := false)
    have go : ∀ r, (if gI (pI s 67 0 (nI 0)) 67 11 = 0 then cG (fMo_readTyped (d + 60) (pI s 67 0 (nI 0))) (kI fun v4 s3 => if v4 ≤ 0 then cG (fMo_versions (d + 60) x s3) (kI fun v6 s5 => fMo_register_31 (d + 61) x v6 0 s5) else rI (-v4) s3) else rI (-33) (pI s 67 0 (nI 0))) = some r → fMo_register (d + 61) x s = some r := fun r hr => by
      refine eMo_register (d + 60) _ _ _ ?_
      rw [Mo_isS, cG_I, show decide (¬ yNo x 3) = true from decide_eq_true hx, if_pos (by decide)]
      refine eMo_register_7 (d + 60) _ _ _ _ ?_
      rw [e0, cG_I, if_pos rfl]
      exact hr
    by_cases hd : S.dn = true
    · have er : y_register x S = (0, -33, S) := by unfold y_register; rw [if_neg hx, if_pos hd]
      rw [er]
      refine ⟨pI s 67 0 (nI 0), go _ ?_, by rw [gI_pI, if_pos ⟨rfl, rfl⟩], hy _, xMo_0⟩
      rw [(hy _).1.2, if_neg (by rw [hd]; decide)]
      rfl
    · have hd0 : S.dn = false := by simpa using hd
      obtain ⟨n, n1, rfl⟩ := yNo_n (by omega) hx
      obtain ⟨s1, p1, p2, p3, p4, p5, p6⟩ := Mo_rty hw (hy (nI 0)) d
      have p4 : gI s1 67 0 = nI 0 := by rw [p4, gI_pI, if_pos ⟨rfl, rfl⟩]
      obtain ⟨yd, yp, yf, yt, yo⟩ := yTr_dn (S := S)
      cases hk : kTx (yB S.tp) S.tp.length with
      | error e =>
        obtain ⟨k, e⟩ := e
        have hkk := kTx_30 hk
        have er : y_register (nI n) S = (0, nEg k, (yTr S).2) := by unfold y_register; rw [if_neg hx, if_neg hd, hk]
        rw [er]
        have et : (yTr S).1 = k := by unfold yTr; rw [hk]
        rw [et] at p1
        refine ⟨s1, go _ ?_, p4, p2, xMo_t xMo_0 ⟨p3.1, by have := p3.2.1; split at this <;> omega, p3.2.2⟩⟩
        rw [(hy _).1.2, if_pos (by rw [hd0]; rfl), p1, cG_I, if_neg (show ¬ nI k ≤ 0 by rw [show (0 : Int32) = nI 0 from rfl, nI_leE (by omega) (by omega)]; omega)]
        rfl
      | ok y =>
        obtain ⟨p, q, y⟩ := y
        obtain ⟨w31, w6, wW⟩ := p5 p q y hk
        obtain ⟨v1, v2, v3, v4⟩ := yVk_tp hw.1.1 hw.1.2 hk
        obtain ⟨g1, g2, g3, g4, g5⟩ := yVk_g v1
        have hlen := hw.1.2
        have hW : mW 69 (yQ (S.tp.take p.1)) (yT (S.tp.take p.1)) (yN (S.tp.take p.1)) (yM (S.tp.take p.1)) (yL (S.tp.take p.1)) (S.tp.take p.1).length s1 := by
          have hsq := kVe_sq (T := yT (S.tp.take p.1)) (N := yN (S.tp.take p.1)) (q0 := (yRd (S.tp.take p.1)).2.1)
          refine mW_sq hsq (kVe_iv g2.1) ?_
          unfold yT yN yM yL
          rw [v2, v4]
          exact wW
        have eX : y = yX (S.tp.take p.1) := by unfold yX; rw [v2]
        rw [eX] at w31
        have et : (yTr S).1 = 0 := by unfold yTr; rw [hk]
        rw [et] at p1
        have xm1 : xMk 0 s s1 := xMo_t xMo_0 (by rw [et, if_pos rfl] at p3; exact p3)
        have hL1 : yLw (yTr S).2.fs := by rw [yf]; exact hL
        have hVc := yVc_le (L := S.fs) n S.fs.length
        have h40 := hL.1.1
        have hVc16 := yVc_16 hL n
        have hlp := Mo_kv (S := (yTr S).2) hL1 p2 (n := n) v1 hW w31 (d + 1) (yVc S.fs n S.fs.length) 0 s1 (by rw [yf]; omega) (fun _ _ _ => ⟨rfl, rfl, rfl⟩)
        rw [yf] at hlp
        have go1 : ∀ r, fMo_register_31 (d + 61) (nI n) (nI (yVc S.fs n S.fs.length)) (nI 0) s1 = some r → fMo_register (d + 61) (nI n) s = some r := fun r hr => by
          refine go r ?_
          rw [(hy _).1.2, if_pos (by rw [hd0]; rfl), p1, cG_I, if_pos (by decide), Mo_vsn (L := S.fs) (by have := p2.2.2.2.2.2.1; rw [yf] at this; exact this) hL.1 (d + 60) (by omega), cG_I]
          exact hr
        have er : ∀ r, r = (if ∀ v, v < yVc S.fs n S.fs.length → yFv S.fs n (S.tp.take p.1) v = true then (if 16 ≤ yVc S.fs n S.fs.length then (0, -31, (yTr S).2) else yRr (ySt (yTr S).2 n (yVc S.fs n S.fs.length) p.1 0 (S.tp.take p.1)) (yVc S.fs n S.fs.length)) else (0, -30, (yTr S).2)) → y_register (nI n) S = r := fun r hr => by
          unfold y_register
          rw [if_neg hx, if_neg hd, hk, hr]
          dsimp only
          rw [nI_ti2 (by omega)]
        have fr : ∀ t : aT, (∀ k i, ¬ xRv k i → gI t k i = gI s1 k i ∧ gL t k i = gL s1 k i ∧ t.2.2.2 = s1.2.2.2) → gI t 67 0 = nI 0 ∧ yMI (yTr S).2 t ∧ xMk 0 s t := fun t ht => ⟨by rw [(ht 67 0 (by unfold xRv; omega)).1]; exact p4, yMI_fr (fun k i hk hn => (ht k i (fun e => hn (by unfold xRv at e; unfold xTm; omega))).1) p2, fun k i hk => by rw [(ht k i (by unfold xRv; omega)).1]; exact xm1.1 k i hk, by rw [(ht 0 0 (by unfold xRv; omega)).2.2]; exact xm1.2.1, by rw [(ht 149 0 (by unfold xRv; omega)).2.1]; exact xm1.2.2⟩
        by_cases hall : ∀ v, v < yVc S.fs n S.fs.length → yFv S.fs n (S.tp.take p.1) v = true
        · rw [if_pos (fun v a _ => hall v a)] at hlp
          obtain ⟨t, t1, t3⟩ := hlp
          obtain ⟨f1, f2, f3⟩ := fr t t1
          by_cases h16 : 16 ≤ yVc S.fs n S.fs.length
          · rw [er (0, -31, (yTr S).2) (by rw [if_pos hall, if_pos h16])]
            refine ⟨t, go1 _ (t3 _ (eMo_register_31 (d + 60) _ _ _ _ _ ?_)), f1, f2, xMo_w f3⟩
            rw [if_pos (show nI (yVc S.fs n S.fs.length) ≤ nI (yVc S.fs n S.fs.length) by rw [nI_leE (by omega) (by omega)]; omega), if_neg (show ¬ ¬ nI (yVc S.fs n S.fs.length) = 16 by rw [show yVc S.fs n S.fs.length = 16 by omega]; decide)]
            rfl
          · rw [er _ (by rw [if_pos hall, if_neg h16])]
            have t69 : gI t 69 6 = nI p.1 := by rw [(t1 69 6 (by unfold xRv; omega)).1]; exact w6
            obtain ⟨s2, q1, q2, q3, q4⟩ := Mo_wr (S := (yTr S).2) hL1 (fun i hi => (yLw_dl hL1 hi).1) f2 (by rw [yp]; exact hw.2.2.2.1) (d + 58) (x := n) (v := yVc S.fs n S.fs.length) (want := p.1) (rw := 0) (a := 68) (C := S.tp.take p.1) (fun _ => by omega) v1.1.1 (fun _ => by show _ ≤ 4096; omega) (by decide) (by omega) (fun _ i hi => by
              rw [f2.2.1.2 i (by rw [yt]; omega), yt, gD_tk (by omega)]) (by omega)
            rw [v4] at q1
            have q0 : gI s2 67 0 = nI 0 := by rw [q4 67 0 (by unfold xWr; omega)]; exact f1
            have go2 : ∀ r, cG (fMo_write (d + 60) (nI n) (nI (yVc S.fs n S.fs.length)) (nI p.1) (zI 0) (nI p.1) 68 (nI (yTr S).2.fs.length) 0 t) (kI fun v2 s1 => if ¬ v2 = (-31) then wI s1 67 2 0 (fun s3 => if 0 ≤ v2 then rI (nI (yVc S.fs n S.fs.length)) s3 else rI v2 s3) else rI (-31) s1) = some r → fMo_register (d + 61) (nI n) s = some r := fun r hr => by
              refine go1 r (t3 _ (eMo_register_31 (d + 60) _ _ _ _ _ ?_))
              rw [if_pos (show nI (yVc S.fs n S.fs.length) ≤ nI (yVc S.fs n S.fs.length) by rw [nI_leE (by omega) (by omega)]; omega), if_pos (show ¬ nI (yVc S.fs n S.fs.length) = 16 by rw [show (16 : Int32) = nI 16 from rfl, nI_eqE (by omega) (by omega)]; omega), t69, f2.2.2.2.2.2.1.1]
              exact hr
            have hcs : ySt (yTr S).2 n (yVc S.fs n S.fs.length) p.1 0 (S.tp.take p.1) = (31, (yTr S).2) ∨ (ySt (yTr S).2 n (yVc S.fs n S.fs.length) p.1 0 (S.tp.take p.1)).1 = 32 ∨ (ySt (yTr S).2 n (yVc S.fs n S.fs.length) p.1 0 (S.tp.take p.1)).1 = 0 := by
              unfold ySt
              split
              · exact .inl rfl
              · split
                · exact .inr (.inl rfl)
                · exact .inr (.inr rfl)
            generalize ySt (yTr S).2 n (yVc S.fs n S.fs.length) p.1 0 (S.tp.take p.1) = R at *
            obtain ⟨R1, R2⟩ := R
            rcases hcs with e | e | e
            · cases e
              rw [yRr_31]
              refine ⟨s2, go2 _ ?_, q0, q2, xMo_t f3 (xMo_w q3)⟩
              rw [q1, cG_I, if_neg (fun e => e rfl)]
              rfl
            · have e : R1 = 32 := e
              subst e
              have e32 : yRr (32, R2) (yVc S.fs n S.fs.length) = (0, nEg 32, R2.stp []) := rfl
              rw [e32]
              refine ⟨pI s2 67 2 0, go2 _ ?_, by rw [gI_pI, if_neg (by omega)]; exact q0, yMI_e q2, xMo_t f3 (xMo_t q3 xMo_0)⟩
              rw [q1, cG_I, if_pos (show ¬ nEg 32 = -31 by decide), wI_eq, if_neg (show ¬ 0 ≤ nEg 32 by decide)]
              rfl
            · have e : R1 = 0 := e
              subst e
              have e00 : yRr (0, R2) (yVc S.fs n S.fs.length) = (0, nI (yVc S.fs n S.fs.length), R2.stp []) := rfl
              rw [e00]
              refine ⟨pI s2 67 2 0, go2 _ ?_, by rw [gI_pI, if_neg (by omega)]; exact q0, yMI_e q2, xMo_t f3 (xMo_t q3 xMo_0)⟩
              rw [q1, cG_I, if_pos (show ¬ nEg 0 = -31 by decide), wI_eq, if_pos (show 0 ≤ nEg 0 by decide)]
              rfl
        · rw [if_neg (fun e => hall (fun v a => e v a (Nat.zero_le _)))] at hlp
          obtain ⟨t, t1, t3⟩ := hlp
          obtain ⟨f1, f2, f3⟩ := fr t t1
          rw [er (0, -30, (yTr S).2) (by rw [if_neg hall])]
          exact ⟨t, go1 _ t3, f1, f2, xMo_w f3⟩
end
