/-! load: both sides -/
def yLd (S : yS) (n v : Nat) (r : Except (Nat × Nat) (Option (Nat × kB))) : Nat × Int32 × yS := match r with
  | .ok (some (k, p)) => yRr (ySt (S.spc (-1)) n v (yWa k p.2.2.2.length) (k + 1) p.2.2.2) k
  | .ok none => (0, -34, S.spc (-1))
  | .error e => (0, -(nI e.1), S.spc (nI e.2))
def y_load (x w : Int32) (S : yS) : Nat × Int32 × yS := yGt x w S (1, 0, S) (0, -33, S) (fun n v => yLd S n v (kLk (yQ (yVd S.fs n v)) (yB S.tp) S.tp.length (yX (yVd S.fs n v))))
section
variable {c : Nat} {S : yS} {s : aT}
theorem ySt_cs {x v want rw : Nat} {C : List Nat} : ySt S x v want rw C = (31, S) ∨ (ySt S x v want rw C).1 = 32 ∨ (ySt S x v want rw C).1 = 0 := by
  unfold ySt
  split
  · exact .inl rfl
  · split
    · exact .inr (.inl rfl)
    · exact .inr (.inr rfl)
theorem yLr_rr {E : Nat → Nat} {F : aRs} {r : Nat × yS} {v : Nat} {w : Int32} {s' : aT} (hF : F = rI w s') (hw : w = if r.1 = 31 then -31 else if r.1 = 0 then nI v else nEg r.1) (h1 : yLI (c + 1) (if r.1 = 31 then r.2 else r.2.stp []) s') (hx : xLk s s') : yLr c s E F (yRr r v) := by
  unfold yRr
  by_cases h : r.1 = 31
  · rw [if_pos h] at hw h1 ⊢
    exact yLr_0 ⟨s', by rw [hF, hw], h1, hx⟩
  · rw [if_neg h] at hw h1 ⊢
    exact yLr_0 ⟨s', by rw [hF, hw], h1, hx⟩
/-- a file of rows is stored in the lake -/
theorem Lk_rst (hL : yLw S.fs) (hpw : S.pw ≤ 1001) (hdn : S.dn = false) (h : yLI c S s) (hc : c ≤ 100000) {k : Nat} {D : List Nat} (hP : lBy 11 (yPr k D) s) (hl : yWa k D.length ≤ 4096) (hk : 1 ≤ k ∧ k ≤ 4096) {x v : Nat} (hx : x < 4) (hv : v < 16) (d : Nat) : ∃ s', fLk_storeFile (d + 14) (nI x) (nI v) (nI k) s = rI (nEg (ySt S x v (yWa k D.length) (k + 1) D).1) s' ∧ yLI (c + 1) (ySt S x v (yWa k D.length) (k + 1) D).2 s' ∧ xLk s s' := by
  have hD : D.length ≤ 4096 := by unfold yWa at hl; omega
  have hsc := h.2.2.2.2.2.1
  rw [yUp_f hdn] at hsc
  have hst := Lk_st (S := S) (s := s) (c := c) hL hdn hpw (yLC_of h) (by omega) hsc.2.1 hP (by rw [yPr_len]; exact hl) (x := x) (v := v) (rw := k + 1) (C := D) hx hv ⟨by omega, by omega⟩ hD (fun b w => yPr_pk) d
  rw [yPr_len, zI_S] at hst
  rcases hst with ⟨r1, s2, r2, r3⟩ | ⟨r1, s2, r2, r3, r4, r5⟩ | ⟨r1, ⟨r0, r0'⟩, s2, r2, r3, r4⟩
  · rw [r1]
    refine ⟨s2, r2, yLI_fr (fun k i hk hx => r3 k i (fun e => hx (by unfold xTr; omega))) (by omega) h, fun k i hk => r3 k i (by omega)⟩
  · rw [r1]
    have o2 : ∀ k i, k = 49 ∨ k = 50 ∨ 67 ≤ k → gI s2 k i = gI s k i := fun k i a => r5 k i (by unfold xSt; omega) (by unfold xLs; omega)
    exact ⟨s2, r2, yLI_of r3 r4 (lMk_fr (o2 49 4 (by omega)) (fun i _ => o2 50 i (by omega)) (by omega) h.2.2.2.2.2.2.2), fun k i hk => o2 k i (by omega)⟩
  · rw [r1]
    have o2 : ∀ k i, k < 56 ∨ 67 ≤ k → gI s2 k i = gI s k i := fun k i a => r4 k i (by unfold xSt; omega)
    refine ⟨s2, by rw [r2]; show rI 0 s2 = rI (nEg 0) s2; rw [nEg_0], yLI_of r3 ?_ (lMk_fr (o2 49 4 (by omega)) (fun i _ => o2 50 i (by omega)) (by omega) h.2.2.2.2.2.2.2), fun k i hk => o2 k i (by omega)⟩
    rw [yUp_f (show ((S.spw (S.pw - (yBk (yWa k D.length) + 1))).sfs (S.fs ++ [(x, v, yRm S.fs (yBk (yWa k D.length)) - 1, yWa k D.length, k + 1, D)])).dn = false from hdn)]
    exact lSc_fr (fun k i a b => o2 k i (by omega)) (lSc_row hsc (by show k + 1 ≠ 0; omega))
/-- looking at a tape that is good -/
theorem Lk_lk2 (hw : yWf S) (h : yLI c S s) (d : Nat) {n v : Nat} (hd : S.dn = false) (hv : yVf S.fs n v ≠ 0) {k : Nat} {p : kB} (hk : kLk (yQ (yVd S.fs n v)) (yB S.tp) S.tp.length (yX (yVd S.fs n v)) = .ok (some (k, p))) : ∃ s', fLk_lookAtTape (d + 108) (nI (lo (yVb S.fs n v) (yX (yVd S.fs n v)))) s = rI (nI k) s' ∧ yLI c (S.spc (-1)) s' ∧ xLk s s' ∧ lBy 47 p.2.2.2 s' := by
  have hL := hw.2.2.2.2
  have hsc := h.2.2.2.2.2.1
  rw [yUp_f hd] at hsc
  obtain ⟨a1, a2, a3, a4, a5, a6⟩ := Lk_ver hL hsc hv
  have ht := h.2.1.1
  have hlt := Lk_tape (s := s) (B := yB S.tp) (n := S.tp.length) hw.1.2 ht.1 (fun i hi => ht.2.1 i hi) (yB_bt hw.1.1) a6.1 a6.2.1 a6.2.2.1 d (yVk_r a1).2.2.2.2
  rw [hk] at hlt
  obtain ⟨y, t1⟩ := hlt
  have hx : ∀ k i, (k < 46 ∨ 48 < k) → ¬ (k = 0 ∧ i = 15) → gI (oK p y (lOp s S.tp.length)) k i = gI s k i := fun k i h1 h2 => by rw [oK_o (by omega), lOp_w h1 h2]
  obtain ⟨b1, b2, b3, b4, b5⟩ := kLk_rw (yB_bt hw.1.1) hk
  refine ⟨_, t1, ?_, fun k i hk => hx k i (by omega) (by omega), ⟨oB_n, fun i hi => oB_r hi, b4, by show _ ≤ 4096; have := hw.1.2; omega⟩⟩
  exact yLI_ch (fun k i hk hn => hx k i (by
    by_cases e : 46 ≤ k ∧ k ≤ 48
    · exact absurd (show xTw k i by unfold xTw xTr; omega) hn
    · omega) (fun e => hn (by unfold xTw; omega))) (Nat.le_refl _) (lBy_fr (fun k i hk => hx k i (by omega) (by omega)) h.2.1.1) (lBy_fr (fun k i hk => hx k i (by omega) (by omega)) h.2.1.2.1) (lBy_fr (fun k i hk => hx k i (by omega) (by omega)) h.2.1.2.2) (by rw [oK_o (by omega), lOp_15]) h
theorem L_load (hw : yWf S) (hc : c ≤ 100000) (h : yLI c S s) (d : Nat) {E : Nat → Nat} (hE : E 1 = 2) (x w : Int32) : yLr c s E (fLk_load (d + 109) x w s) (y_load x w S) := by
  refine yLr_go (Lk_gt hw h (d + 108) hE (K := fun s2 => cG (fSc_rootOf (d + 108) x w s2) (kI fun v4 s3 => cG (fLk_lookAtTape (d + 108) v4 s3) (kI fun v6 s5 => if 0 ≤ v6 then cG (fLk_pack (d + 108) v6 47 s5) (kI fun v8 s7 => if v8 = 0 then fLk_load_37 (d + 109) v6 (-31) s7 else cG (fLk_storeFile (d + 108) x w v6 s7) (kI fun v10 s9 => fLk_load_37 (d + 109) v6 v10 s9)) else rI v6 s5))) (fun n v hn hv ex ew hd hvf => ?_)) (fun r hr => eLk_load (d + 108) _ _ _ _ hr)
  have hL := hw.2.2.2.2
  have hsc := h.2.2.2.2.2.1
  rw [yUp_f hd] at hsc
  obtain ⟨a1, a2, a3, a4, a5, a6⟩ := Lk_ver hL hsc hvf
  show yLr c s E (cG (fSc_rootOf (d + 108) x w s) _) _
  rw [ex, ew, a4, cG_I]
  cases hk : kLk (yQ (yVd S.fs n v)) (yB S.tp) S.tp.length (yX (yVd S.fs n v)) with
  | error e =>
    have hl := Lk_look hw h d E hd hvf
    have he := kLk_ek hk
    rw [hk] at hl
    unfold yLr at hl
    rw [if_pos (show (yLo S (.error e)).1 = 0 from rfl)] at hl
    obtain ⟨s', r1, r2⟩ := hl
    have r1 : fLk_lookAtTape (d + 108) (nI (lo (yVb S.fs n v) (yX (yVd S.fs n v)))) s = rI (nEg e.1) s' := r1
    refine yLr_0 ⟨s', ?_, r2⟩
    rw [r1, cG_I, if_neg (nEg_lt he.1 (by have := he.2; omega))]
    rfl
  | ok o =>
    cases o with
    | none =>
      have hl := Lk_look hw h d E hd hvf
      rw [hk] at hl
      unfold yLr at hl
      rw [if_pos (show (yLo S (.ok none)).1 = 0 from rfl)] at hl
      obtain ⟨s', r1, r2⟩ := hl
      have r1 : fLk_lookAtTape (d + 108) (nI (lo (yVb S.fs n v) (yX (yVd S.fs n v)))) s = rI (-34) s' := r1
      refine yLr_0 ⟨s', ?_, r2⟩
      rw [r1, cG_I, if_neg (by decide)]
    | some kp =>
      obtain ⟨k, p⟩ := kp
      obtain ⟨b1, b2, b3, b4, b5⟩ := kLk_rw (yB_bt hw.1.1) hk
      have hlen := hw.1.2
      obtain ⟨s1, q1, q2, q3, q4⟩ := Lk_lk2 hw h d hd hvf hk
      have hpk := Lk_pack (t := s1) (.inl rfl) q4 (by omega) (k := k) (by omega) (d + 101)
      have hk0 : (0 : Int32) ≤ nI k := by rw [show (0 : Int32) = nI 0 from rfl, nI_leE (by omega) (by omega)]; omega
      rw [q1, cG_I, if_pos hk0]
      show yLr c s E _ (yRr (ySt (S.spc (-1)) n v (yWa k p.2.2.2.length) (k + 1) p.2.2.2) k)
      have oc : ∀ (L : List Nat) k i, k ≠ 11 → k ≠ 12 → gI (oB 11 L s1) k i = gI s1 k i := fun L k i a b => oB_o a (by omega)
      have ly : ∀ L : List Nat, yLI c (S.spc (-1)) (oB 11 L s1) := fun L => yLI_fr (fun k i hk hx => oc L k i (fun e => hx (by unfold xTr; omega)) (fun e => hx (by unfold xTr; omega))) (Nat.le_refl _) q2
      have lx : ∀ L : List Nat, xLk s (oB 11 L s1) := fun L k i hk => by rw [oc L k i (by omega) (by omega)]; exact q3 k i hk
      by_cases hfit : yWa k p.2.2.2.length ≤ 4096
      · rw [if_pos hfit] at hpk
        have hP : lBy 11 (yPr k p.2.2.2) (oB 11 (yPr k p.2.2.2) s1) := lBy_oB (yPr_bt b4) (by rw [yPr_len]; exact hfit)
        obtain ⟨s2, r1, r2, r3⟩ := Lk_rst (S := S.spc (-1)) hL hw.2.2.2.1 hd (ly (yPr k p.2.2.2)) hc hP hfit ⟨by omega, by omega⟩ (x := n) (v := v) hn hv (d + 94)
        rw [hpk, cG_I, if_neg (by decide), show d + 108 = d + 94 + 14 by omega, r1, cG_I]
        have hcs := ySt_cs (S := S.spc (-1)) (x := n) (v := v) (want := yWa k p.2.2.2.length) (rw := k + 1) (C := p.2.2.2)
        generalize ySt (S.spc (-1)) n v (yWa k p.2.2.2.length) (k + 1) p.2.2.2 = R at *
        obtain ⟨R1, R2⟩ := R
        rcases hcs with e | e | e
        · cases e
          refine yLr_rr (w := -31) (s' := s2) (eLk_load_37 (d + 108) _ _ _ _ ?_) rfl r2 (xLk_t (lx _) r3)
          rw [if_neg (fun e => e rfl)]
          rfl
        · have e : R1 = 32 := e
          subst e
          refine yLr_rr (w := nEg 32) (s' := pI s2 1 1 0) (eLk_load_37 (d + 108) _ _ _ _ ?_) rfl (yLI_e r2) (xLk_t (lx _) (xLk_t r3 (fun k i hk => by rw [gI_pI, if_neg (by omega)])))
          rw [if_pos (show ¬ nEg 32 = -31 by decide), wI_eq, if_pos (show ¬ nEg 32 = 0 by decide)]
          rfl
        · have e : R1 = 0 := e
          subst e
          refine yLr_rr (w := nI k) (s' := pI s2 1 1 0) (eLk_load_37 (d + 108) _ _ _ _ ?_) rfl (yLI_e r2) (xLk_t (lx _) (xLk_t r3 (fun k i hk => by rw [gI_pI, if_neg (by omega)])))
          rw [if_pos (show ¬ nEg 0 = -31 by decide), wI_eq, if_neg (show ¬ ¬ nEg 0 = 0 by decide)]
          rfl
      · rw [if_neg hfit] at hpk
        obtain ⟨L', hpk⟩ := hpk
        have er : ySt (S.spc (-1)) n v (yWa k p.2.2.2.length) (k + 1) p.2.2.2 = (31, S.spc (-1)) := if_pos (.inl (by omega))
        rw [er, hpk, cG_I, if_pos rfl]
        refine yLr_rr (w := -31) (s' := oB 11 L' s1) (eLk_load_37 (d + 108) _ _ _ _ ?_) rfl (yLI_c (by omega) (ly L')) (lx L')
        rw [if_neg (fun e => e rfl)]
        rfl
theorem M_load (hw : yWf S) (h : yMI S s) (d : Nat) (x w : Int32) : yMr s (fMo_load (d + 105) x w s) (y_load x w S) := by
  have hgo := Mo_go_load hw.2.2.2.2 h (d + 102) (x := x) (w := w)
  rw [show d + 102 + 3 = d + 105 by omega] at hgo
  refine Mo_gt hw h (d + 104) (K := fun s1 => cG (fMo_readVersion (d + 104) 91 x w s1) (kV fun s3 => cN (fMo_lookAtRows (d + 104) 91 1 s3) (kI fun v5 s4 => if 1 ≤ v5 then if gI s4 67 22 ≤ 4096 then cG (fMo_wanted (d + 104) v5 (gI s4 67 22) s4) (kI fun v7 s6 => fMo_load_59 (d + 105) v5 v7 w x s6) else fMo_load_59 (d + 105) v5 4097 w x s4 else if ¬ v5 = 0 then rI v5 s4 else rI (-34) s4))) (fun r hr => hgo r (eMo_load_15 (d + 104) _ _ _ _ _ hr)) (fun n v hn hv ex ew hd hvf => ?_)
  have hL := hw.2.2.2.2
  have hy := yMI_0 (v := nI 0) h
  obtain ⟨s1, q1, s', q2, q3, q4, q5, q6⟩ := Mo_look hw hy d hvf true (by rw [gI_pI, if_pos ⟨rfl, rfl⟩])
  have q2 : fMo_lookAtRows (d + 104) 91 1 s1 = _ := q2
  unfold yMr
  rw [ex, ew, q1, cG_V, q2, cN_I]
  cases hk : kLk (yQ (yVd S.fs n v)) (yB S.tp) S.tp.length (yX (yVd S.fs n v)) with
  | error e =>
    have he := kLk_ek hk
    rw [hk] at q3
    refine ⟨s', ?_, q4, q3, xMk_er q5⟩
    have ev : (yLo S (Except.error e : Except (Nat × Nat) (Option (Nat × kB)))).2.1 = nEg e.1 := rfl
    have hneg : ¬ (1 : Int32) ≤ nEg e.1 := fun hh => nEg_lt he.1 (by have := he.2; omega) (by
      rw [Int32.le_iff_toInt_le] at hh ⊢
      have e1 : (1 : Int32).toInt = 1 := rfl
      have e0 : (0 : Int32).toInt = 0 := rfl
      omega)
    have hnz : ¬ nEg e.1 = 0 := by
      rw [show (0 : Int32) = nEg 0 from rfl, nEg_ne (by have := he.2; omega) (by omega)]
      have := he.1
      omega
    rw [ev, if_neg hneg, if_pos hnz]
    rfl
  | ok o =>
    cases o with
    | none =>
      rw [hk] at q3
      refine ⟨s', ?_, q4, q3, xMk_er q5⟩
      have ev : (yLo S (Except.ok none : Except (Nat × Nat) (Option (Nat × kB)))).2.1 = -34 := rfl
      rw [ev, if_neg (by decide), if_pos (by decide)]
      rfl
    | some kp =>
      obtain ⟨k, p⟩ := kp
      obtain ⟨b1, b2, b3, b4, b5⟩ := kLk_rw (yB_bt hw.1.1) hk
      have hlen := hw.1.2
      rw [hk] at q3
      have q3 : yMI (S.spc (-1)) s' := q3
      have q5 : xMk 0 (pI s 67 0 (nI 0)) s' := by rw [hk] at q5; exact q5
      obtain ⟨m1, m2⟩ := q6 k p hk rfl
      have ev : (yLo S (Except.ok (some (k, p)) : Except (Nat × Nat) (Option (Nat × kB)))).2.1 = nI k := rfl
      have hwl : yWa k p.2.2.2.length < 100000 := by
        have v1 := kVb_10 (Int64.ofNat k)
        have v2 := kVb_10 (Int64.ofNat p.2.2.2.length)
        unfold yWa
        omega
      obtain ⟨s2, w1, w2, w3, w4⟩ := Mo_wr (S := S.spc (-1)) (s := s') hL (fun i hi => (yLw_dl hL hi).1) q3 hw.2.2.2.1 (d + 102) (x := n) (v := v) (want := yWa k p.2.2.2.length) (rw := k + 1) (a := 144) (C := p.2.2.2) (fun _ => by unfold yWa; omega) b4 (fun _ => by show _ ≤ 4200; omega) (by decide) (by omega) (fun _ i hi => m2 i hi) hwl
      have w0 : gI s2 67 0 = nI 0 := by rw [w4 67 0 (by unfold xWr; omega)]; exact q4
      have hle : nI p.2.2.2.length ≤ 4096 := by rw [show (4096 : Int32) = nI 4096 from rfl, nI_leE (by omega) (by omega)]; omega
      have eld : yLd S n v (Except.ok (some (k, p)) : Except (Nat × Nat) (Option (Nat × kB))) = yRr (ySt (S.spc (-1)) n v (yWa k p.2.2.2.length) (k + 1) p.2.2.2) k := rfl
      rw [eld]
      have go : ∀ r, cG (fMo_write (d + 104) (nI n) (nI v) (nI (yWa k p.2.2.2.length)) (nI k) (nI p.2.2.2.length) 144 (nI S.fs.length) 0 s') (kI fun v2 s1 => if ¬ v2 = (-31) then wI s1 67 2 0 (fun s3 => if 0 ≤ v2 then rI (nI k) s3 else rI v2 s3) else rI (-31) s1) = some r → (if 1 ≤ (yLo S (Except.ok (some (k, p)) : Except (Nat × Nat) (Option (Nat × kB)))).2.1 then if gI s' 67 22 ≤ 4096 then cG (fMo_wanted (d + 104) (yLo S (Except.ok (some (k, p)) : Except (Nat × Nat) (Option (Nat × kB)))).2.1 (gI s' 67 22) s') (kI fun v7 s6 => fMo_load_59 (d + 105) (yLo S (Except.ok (some (k, p)) : Except (Nat × Nat) (Option (Nat × kB)))).2.1 v7 (nI v) (nI n) s6) else fMo_load_59 (d + 105) (yLo S (Except.ok (some (k, p)) : Except (Nat × Nat) (Option (Nat × kB)))).2.1 4097 (nI v) (nI n) s' else if ¬ (yLo S (Except.ok (some (k, p)) : Except (Nat × Nat) (Option (Nat × kB)))).2.1 = 0 then rI (yLo S (Except.ok (some (k, p)) : Except (Nat × Nat) (Option (Nat × kB)))).2.1 s' else rI (-34) s') = some r := fun r hr => by
        rw [ev, if_pos (show (1 : Int32) ≤ nI k by rw [show (1 : Int32) = nI 1 from rfl, nI_leE (by omega) (by omega)]; omega), m1, if_pos hle, Mo_wa (d + 103) (by omega) (by omega), cG_I]
        refine eMo_load_59 (d + 104) _ _ _ _ _ _ ?_
        rw [m1, if_pos hle]
        refine eMo_load_68 (d + 104) _ _ _ _ _ _ _ _ ?_
        rw [q3.2.2.2.2.2.1.1]
        exact hr
      rw [zI_S] at w1
      have w1 : fMo_write (d + 104) (nI n) (nI v) (nI (yWa k p.2.2.2.length)) (nI k) (nI p.2.2.2.length) 144 (nI S.fs.length) 0 s' = _ := w1
      have hcs := ySt_cs (S := S.spc (-1)) (x := n) (v := v) (want := yWa k p.2.2.2.length) (rw := k + 1) (C := p.2.2.2)
      generalize ySt (S.spc (-1)) n v (yWa k p.2.2.2.length) (k + 1) p.2.2.2 = R at *
      obtain ⟨R1, R2⟩ := R
      rcases hcs with e | e | e
      · cases e
        refine ⟨s2, go _ ?_, w0, w2, xMo_t q5 (xMo_w w3)⟩
        rw [w1, cG_I, if_neg (fun e => e rfl)]
        rfl
      · have e : R1 = 32 := e
        subst e
        refine ⟨pI s2 67 2 0, go _ ?_, by rw [gI_pI, if_neg (by omega)]; exact w0, yMI_e w2, xMo_t q5 (xMo_t w3 xMo_0)⟩
        rw [w1, cG_I, if_pos (show ¬ nEg 32 = -31 by decide), wI_eq, if_neg (show ¬ 0 ≤ nEg 32 by decide)]
        rfl
      · have e : R1 = 0 := e
        subst e
        refine ⟨pI s2 67 2 0, go _ ?_, by rw [gI_pI, if_neg (by omega)]; exact w0, yMI_e w2, xMo_t q5 (xMo_t w3 xMo_0)⟩
        rw [w1, cG_I, if_pos (show ¬ nEg 0 = -31 by decide), wI_eq, if_pos (show 0 ≤ nEg 0 by decide)]
        rfl
end
