/-! copy: the reference, all files -/
section
variable {S : yS} {s s0 : aT} {n m v : Nat} {gs : Nat → Nat → Nat} {Ms : Nat → List Nat} {bs : Nat → Bool}
/-- all is gathered -/
theorem Mo_cend (hw : yWf S) (hM0 : yMI S s0) (h00 : gI s0 67 0 = nI 0) (hvf : yVf S.fs m v ≠ 0) (w2 : mW 113 (yQ (yVd S.fs m v)) (yT (yVd S.fs m v)) (yN (yVd S.fs m v)) (yM (yVd S.fs m v)) (yL (yVd S.fs m v)) (yVd S.fs m v).length s0) (hr2 : gI s0 113 31 = nI (yX (yVd S.fs m v))) (hts : yTs S.fs n (yVd S.fs m v) gs Ms bs) (d : Nat) (hi : yGm s0 Ms bs (yRs S.fs n S.fs.length) s) : yMg s0 (fMo_copy_48 (d + 150) (nI n) (nI m) (nI v) (nI (yRs S.fs n S.fs.length)) (nI (yCat Ms (yRs S.fs n S.fs.length)).length) (nI S.fs.length) s) (yCg S m v (yVd S.fs m v) Ms bs (yRs S.fs n S.fs.length) (yRs S.fs n S.fs.length)) := by
  have hL := hw.2.2.2.2
  have h40 := hL.1.1
  have hN := yRs_40 hL n (Nat.le_refl S.fs.length)
  have hR := (hL.2.2.1 _ ((yVf_iff hL).2 hvf).1 ((yVf_iff hL).2 hvf).2.1.2).1
  have hMs : yMI S s := xGm_MI hM0 hi.1.1
  have hx0 : xMk 0 s0 s := ⟨fun k i hk => hi.1.1 k i (by omega) (by omega) (by omega) (by omega), by rw [hi.1.2.2]; exact Nat.le_refl _, hi.1.2.1 149 0 (by omega)⟩
  have hs0 : gI s 67 0 = nI 0 := by rw [hi.1.1 67 0 (by omega) (by omega) (by omega) (by omega)]; exact h00
  have eg : yGf Ms bs (yRs S.fs n S.fs.length - yRs S.fs n S.fs.length) (yRs S.fs n S.fs.length) = 0 := by rw [Nat.sub_self]; rfl
  have hg0 : yGf Ms bs (yRs S.fs n S.fs.length) 0 = 0 := yGf_of _ _ (fun j _ h2 => hi.2.2.2 j (by omega))
  have hgl := hi.2.2.1
  have hz : (nI (yCat Ms (yRs S.fs n S.fs.length)).length = 0) = ((yCat Ms (yRs S.fs n S.fs.length)).length = 0) := by rw [show (0 : Int32) = nI 0 from rfl, nI_eqE (by omega) (by omega)]
  unfold yCg
  rw [eg, if_pos rfl]
  have go : ∀ z, (if ¬ nI (yCat Ms (yRs S.fs n S.fs.length)).length = 0 then if 4096 < nI (yCat Ms (yRs S.fs n S.fs.length)).length then fMo_copy_144 (d + 150) (nI m) (nI v) (nI (yRs S.fs n S.fs.length)) (nI (yCat Ms (yRs S.fs n S.fs.length)).length) s else cG (fMo_isFaulty (d + 149) (nI (yCat Ms (yRs S.fs n S.fs.length)).length) s) (kI fun v2 s1 => if v2 = 0 then fMo_copy_144 (d + 150) (nI m) (nI v) (nI (yRs S.fs n S.fs.length)) (nI (yCat Ms (yRs S.fs n S.fs.length)).length) s1 else rI (-31) s1) else rI (-34) s) = some z → fMo_copy_48 (d + 150) (nI n) (nI m) (nI v) (nI (yRs S.fs n S.fs.length)) (nI (yCat Ms (yRs S.fs n S.fs.length)).length) (nI S.fs.length) s = some z := fun z hz => by
    refine eMo_copy_48 (d + 149) _ _ _ _ _ _ _ _ ?_
    rw [hMs.2.2.2.2.2.1.1, if_pos (Int32.le_refl _)]
    exact hz
  by_cases hT : (yCat Ms (yRs S.fs n S.fs.length)).length = 0
  · rw [if_pos hT]
    refine ⟨s, go _ ?_, hs0, hMs, xMo_w hx0⟩
    rw [if_neg (fun e => e (hz.mpr hT))]
    try rfl
  · rw [if_neg hT]
    obtain ⟨p0, p1, p2, p3⟩ := yTs_pos hL hR hts hg0 hT
    have h147 := hi.2.1
    by_cases hq : (yCat Ms (yRs S.fs n S.fs.length)).length ≤ 4096
    · obtain ⟨s1, f1, f2, f3, f4, f5⟩ := Mo_fau hw hMs hs0 hR (mW_frg (fun k i a b => ⟨hi.1.1 k i (by omega) (by omega) (by omega) (by omega), hi.1.2.1 k i (by omega)⟩) w2) (by rw [hi.1.1 113 31 (by omega) (by omega) (by omega) (by omega)]; exact hr2) (N := yRs S.fs n S.fs.length) (Ms := Ms) (fun i hi => ⟨(p0 i hi).1, (p0 i hi).2, p1 i hi⟩) p3 p2 hq (fun i hi => h147 i hi (by omega)) (d + 44)
      rw [show d + 44 + 105 = d + 149 by omega] at f1
      have hbT : kBt (yCat Ms (yRs S.fs n S.fs.length)) := yCat_bt _ (fun i hi => (p0 i hi).1)
      have go2 : ∀ z, (if uB (!ySo (yQ (yVd S.fs m v)) (yX (yVd S.fs m v)) Ms (yRs S.fs n S.fs.length)) = 0 then fMo_copy_144 (d + 150) (nI m) (nI v) (nI (yRs S.fs n S.fs.length)) (nI (yCat Ms (yRs S.fs n S.fs.length)).length) s1 else rI (-31) s1) = some z → fMo_copy_48 (d + 150) (nI n) (nI m) (nI v) (nI (yRs S.fs n S.fs.length)) (nI (yCat Ms (yRs S.fs n S.fs.length)).length) (nI S.fs.length) s = some z := fun z hz2 => by
        refine go z ?_
        rw [if_pos (fun e => hT (hz.mp e)), if_neg (show ¬ (4096 : Int32) < nI (yCat Ms (yRs S.fs n S.fs.length)).length by rw [show (4096 : Int32) = nI 4096 from rfl, nI_ltE (by omega) (by omega)]; omega), f1, cG_I]
        exact hz2
      cases hs : ySo (yQ (yVd S.fs m v)) (yX (yVd S.fs m v)) Ms (yRs S.fs n S.fs.length) with
      | false =>
        rw [hs] at go2
        rw [hs, if_neg (by decide)] at f4
        rw [if_neg (by decide)]
        refine ⟨s1, go2 _ ?_, f3, f2, xMo_t hx0 f4⟩
        rw [if_neg (by decide)]
        try rfl
      | true =>
        rw [hs] at go2
        rw [hs, if_pos rfl] at f4
        rw [if_pos rfl]
        have h147' : ∀ i, i < (yCat Ms (yRs S.fs n S.fs.length)).length → gI s1 147 i = mI ((yCat Ms (yRs S.fs n S.fs.length)).getD i 0) := fun i hi => by rw [f5 i]; exact h147 i hi (by omega)
        clear go hi h147 eg hg0 p0 p1 hz f5 hts
        generalize yRs S.fs n S.fs.length = N at *
        generalize yCat Ms N = C at *
        have hle : nI C.length ≤ 4096 := by rw [show (4096 : Int32) = nI 4096 from rfl, nI_leE (by omega) (by omega)]; omega
        have hwl : yWa N C.length < 100000 := by
          have v1 := kVb_10 (Int64.ofNat N)
          have v2 := kVb_10 (Int64.ofNat C.length)
          unfold yWa
          omega
        obtain ⟨s2, q1, q2, q3, q4⟩ := Mo_wr (S := S) (s := s1) hL (fun i hi => (yLw_dl hL hi).1) f2 hw.2.2.2.1 (d + 147) (x := m) (v := v) (want := yWa N C.length) (rw := N + 1) (a := 147) (C := C) (fun _ => by unfold yWa; omega) hbT (fun _ => by show _ ≤ 4200; omega) (by decide) (by omega) (fun _ i hi => h147' i hi) hwl
        rw [zI_S] at q1
        have q1 : fMo_write (d + 149) (nI m) (nI v) (nI (yWa N C.length)) (nI N) (nI C.length) 147 (nI S.fs.length) 0 s1 = _ := q1
        have w0 : gI s2 67 0 = nI 0 := by rw [q4 67 0 (by unfold xWr; omega)]; exact f3
        have go3 : ∀ z, (if 0 ≤ nEg (ySt S m v (yWa N C.length) (N + 1) C).1 then rI (nI N) s2 else rI (nEg (ySt S m v (yWa N C.length) (N + 1) C).1) s2) = some z → fMo_copy_48 (d + 150) (nI n) (nI m) (nI v) (nI N) (nI C.length) (nI S.fs.length) s = some z := fun z hz2 => by
          refine go2 z ?_
          rw [if_pos (by decide)]
          refine eMo_copy_144 (d + 149) _ _ _ _ _ _ ?_
          rw [if_pos hle, Mo_wa (d + 148) (by omega) (by omega), cG_I]
          refine eMo_copy_155 (d + 149) _ _ _ _ _ _ _ ?_
          rw [if_pos hle]
          refine eMo_copy_162 (d + 149) _ _ _ _ _ _ _ _ ?_
          rw [f2.2.2.2.2.2.1.1, q1, cG_I]
          exact hz2
        have hcs := ySt_cs (S := S) (x := m) (v := v) (want := yWa N C.length) (rw := N + 1) (C := C)
        generalize ySt S m v (yWa N C.length) (N + 1) C = Q at *
        obtain ⟨R1, R2⟩ := Q
        unfold yCs
        rcases hcs with e | e | e
        · cases e
          rw [if_neg (show ¬ 31 = 0 by decide)]
          refine ⟨s2, go3 _ ?_, w0, q2, xMo_t hx0 (xMo_t f4 (xMo_w q3))⟩
          rw [if_neg (show ¬ 0 ≤ nEg 31 by decide)]
          try rfl
        · have e : R1 = 32 := e
          subst e
          rw [if_neg (show ¬ 32 = 0 by decide)]
          refine ⟨s2, go3 _ ?_, w0, q2, xMo_t hx0 (xMo_t f4 (xMo_w q3))⟩
          rw [if_neg (show ¬ 0 ≤ nEg 32 by decide)]
          try rfl
        · have e : R1 = 0 := e
          subst e
          rw [if_pos (show (0 : Nat) = 0 from rfl)]
          refine ⟨s2, go3 _ ?_, w0, q2, xMo_t hx0 (xMo_t f4 (xMo_w q3))⟩
          rw [if_pos (show 0 ≤ nEg 0 by decide)]
          try rfl
    · have hsf : ¬ ySo (yQ (yVd S.fs m v)) (yX (yVd S.fs m v)) Ms (yRs S.fs n S.fs.length) = true := fun e => hq ((ySo_iff _).mp e).1
      rw [if_neg hsf]
      obtain ⟨s2, q1, q2, q3, q4⟩ := Mo_wr (S := S) (s := s) hL (fun i hi => (yLw_dl hL hi).1) hMs hw.2.2.2.1 (d + 147) (x := m) (v := v) (want := 4097) (rw := yRs S.fs n S.fs.length + 1) (a := 147) (C := []) (fun e => by omega) kBt_n (fun e => by omega) (by decide) (by omega) (fun e => by omega) (by omega)
      rw [zI_S] at q1
      have q1 : fMo_write (d + 149) (nI m) (nI v) 4097 (nI (yRs S.fs n S.fs.length)) 0 147 (nI S.fs.length) 0 s = _ := q1
      have er : ySt S m v 4097 (yRs S.fs n S.fs.length + 1) [] = (31, S) := if_pos (.inl (by omega))
      rw [er] at q1 q2
      have hnle : ¬ nI (yCat Ms (yRs S.fs n S.fs.length)).length ≤ 4096 := by rw [show (4096 : Int32) = nI 4096 from rfl, nI_leE (by omega) (by omega)]; omega
      refine ⟨s2, go _ ?_, by rw [q4 67 0 (by unfold xWr; omega)]; exact hs0, q2, xMo_t hx0 (xMo_w q3)⟩
      rw [if_pos (fun e => hT (hz.mp e)), if_pos (show (4096 : Int32) < nI (yCat Ms (yRs S.fs n S.fs.length)).length by rw [show (4096 : Int32) = nI 4096 from rfl, nI_ltE (by omega) (by omega)]; omega)]
      refine eMo_copy_144 (d + 149) _ _ _ _ _ _ ?_
      rw [if_neg hnle]
      refine eMo_copy_155 (d + 149) _ _ _ _ _ _ _ ?_
      rw [if_neg hnle]
      refine eMo_copy_162 (d + 149) _ _ _ _ _ _ _ _ ?_
      rw [hMs.2.2.2.2.2.1.1, q1, cG_I, if_neg (show ¬ 0 ≤ nEg 31 by decide)]
      rfl
theorem Mo_c48 (hw : yWf S) (hM0 : yMI S s0) (h00 : gI s0 67 0 = nI 0) (hn : n < 4) (hvf : yVf S.fs m v ≠ 0) (w2 : mW 113 (yQ (yVd S.fs m v)) (yT (yVd S.fs m v)) (yN (yVd S.fs m v)) (yM (yVd S.fs m v)) (yL (yVd S.fs m v)) (yVd S.fs m v).length s0) (hr2 : gI s0 113 31 = nI (yX (yVd S.fs m v))) (hts : yTs S.fs n (yVd S.fs m v) gs Ms bs) (d : Nat) : ∀ j k, k + j = S.fs.length → ∀ s, yGm s0 Ms bs (yRs S.fs n k) s → yMg s0 (fMo_copy_48 (d + 150) (nI n) (nI m) (nI v) (nI (yRs S.fs n S.fs.length)) (nI (yCat Ms (yRs S.fs n k)).length) (nI k) s) (yCg S m v (yVd S.fs m v) Ms bs (yRs S.fs n S.fs.length) (yRs S.fs n k)) := by
  have hL := hw.2.2.2.2
  have h40 := hL.1.1
  have hN := yRs_40 hL n (Nat.le_refl S.fs.length)
  have hR := (hL.2.2.1 _ ((yVf_iff hL).2 hvf).1 ((yVf_iff hL).2 hvf).2.1.2).1
  intro j
  induction j with
  | zero =>
    intro k hk s hi
    have e : k = S.fs.length := by omega
    subst e
    exact Mo_cend hw hM0 h00 hvf w2 hr2 hts d hi
  | succ j ih =>
    intro k hk s hi
    have hkl : k < S.fs.length := by omega
    have hMs : yMI S s := xGm_MI hM0 hi.1.1
    have hfi := hMs.2.2.2.2.2.1
    obtain ⟨a1, a2, a3, a4, a5, a6⟩ := hfi.2 k hkl
    obtain ⟨c1, c2, c3, c4, c5⟩ := hL.1.2 k hkl
    have nxt := ih (k + 1) (by omega)
    have eo : (nI (S.fs.getD k yF0).1 = nI n) = ((S.fs.getD k yF0).1 = n) := nI_eqE (by omega) (by omega)
    have ez : (zI (S.fs.getD k yF0).2.2.2.2.1 < 0) = ((S.fs.getD k yF0).2.2.2.2.1 = 0) := zI_lt0 (by omega)
    by_cases hy : yIs (S.fs.getD k yF0) n
    · obtain ⟨r1, r2, r3, r4⟩ := yRow hL hkl hy
      have hR1 := (hL.2.2.1 _ ((yVf_iff hL).2 r1).1 ((yVf_iff hL).2 r1).2.1.2).1
      obtain ⟨s1, q1, q2, q3, q4, _⟩ := Mo_rdv hL hMs r1 (.inl rfl) (d + 90)
      obtain ⟨hg, ht⟩ := hts k hkl hy
      have hm := yRs_mo (L := S.fs) n (S.fs.length - (k + 1)) (k + 1)
      rw [show k + 1 + (S.fs.length - (k + 1)) = S.fs.length by omega] at hm
      have h82 := Mo_c82 hw hM0 h00 hR w2 hr2 hkl hy rfl hR1 hg ht hm hN d (x2 := nI m) (x3 := nI v) (m := m) (v := v) nxt ((S.fs.getD k yF0).2.2.2.2.1 - 1) 0 (by omega) (pI s1 67 31 (nI (256 * (S.fs.getD k yF0).2.2.1)))
      rw [Nat.add_zero] at h82
      have ox : ∀ k' i, ¬ (91 ≤ k' ∧ k' < 113) → ¬ (k' = 67 ∧ i = 31) → gI (pI s1 67 31 (nI (256 * (S.fs.getD k yF0).2.2.1))) k' i = gI s k' i := fun k' i b1 b2 => by rw [gI_pI, if_neg b2]; exact (q2 k' i (by omega)).1
      refine yMg_go (h82 ⟨⟨fun k' i b1 b2 b3 b4 => by rw [ox k' i b1 (by omega)]; exact hi.1.1 k' i b1 b2 b3 b4, fun k' i b1 => ?_, by
        show s1.2.2.2 = _
        rw [Mo_rdvU hL hMs r1 (.inl rfl) (d + 90) q1, hi.1.2.2]⟩, fun i b1 b2 => by rw [ox 147 i (by omega) (by omega)]; exact hi.2.1 i b1 b2, hi.2.2⟩ (mW_frg (fun k' i b1 b2 => ⟨by rw [gI_pI, if_neg (by omega)], rfl⟩) q4) (by rw [gI_pI, if_neg (by omega)]; exact q3) (by rw [gI_pI, if_pos ⟨rfl, rfl⟩, hg.1, Nat.add_zero])) (fun z hz => eMo_copy_48 (d + 149) _ _ _ _ _ _ _ _ ?_)
      · show gL s1 k' i = _
        rw [(q2 k' i (by omega)).2]
        exact hi.1.2.1 k' i b1
      · have e139 : gI s1 139 k = nI (S.fs.getD k yF0).2.2.1 := by rw [(q2 139 k (by omega)).1]; exact a3
        rw [hfi.1, if_neg (show ¬ nI S.fs.length ≤ nI k by rw [nI_leE (by omega) (by omega)]; omega), ldI_n (by omega) (by omega), a1, if_neg (fun x => x (by rw [eo]; exact hy.1)), ldI_n (by omega) (by omega), a5, if_neg (by rw [ez]; exact hy.2), ldI_n (by omega) (by omega), a2, show d + 149 = d + 90 + 59 by omega, q1, cG_V, ldI_n (by omega) (by omega), e139, wI_eq, show (256 : Int32) = nI 256 from rfl, nI_mulE]
        exact hz
    · rw [yRs_N hy] at nxt
      refine yMg_go (nxt s hi) (fun z hz => eMo_copy_48 (d + 149) _ _ _ _ _ _ _ _ ?_)
      have g129 : fMo_copy_129 (d + 150) (nI n) (nI m) (nI v) (nI (yRs S.fs n S.fs.length)) (nI (yCat Ms (yRs S.fs n k)).length) (nI k) s = some z := by
        refine eMo_copy_129 (d + 149) _ _ _ _ _ _ _ _ ?_
        rw [nI_add1]
        exact hz
      rw [hfi.1, if_neg (show ¬ nI S.fs.length ≤ nI k by rw [nI_leE (by omega) (by omega)]; omega), ldI_n (by omega) (by omega), a1]
      by_cases h1 : (S.fs.getD k yF0).1 = n
      · rw [if_neg (fun x => x (by rw [eo]; exact h1)), ldI_n (by omega) (by omega), a5]
        by_cases h2 : (S.fs.getD k yF0).2.2.2.2.1 = 0
        · rw [if_pos (by rw [ez]; exact h2)]
          exact g129
        · exact absurd ⟨h1, h2⟩ hy
      · rw [if_pos (fun x => h1 (by rw [eo] at x; exact x))]
        exact g129
theorem yCg_0 {R : List Nat} {N : Nat} : yCg S m v R Ms bs N 0 = yCo S m v R Ms bs N := rfl
theorem yCo_1 {R : List Nat} {N : Nat} : (yCo S m v R Ms bs N).1 = 0 := by
  unfold yCo yCs
  split
  · split
    · rfl
    · split <;> rfl
  · rfl
theorem M_copy (hw : yWf S) (h : yMI S s) (d : Nat) (x1 x2 w : Int32) {r : Nat × Int32 × yS} (hr : y_copy x1 x2 w S r) : yMr s (fMo_copy (d + 150) x1 x2 w s) r := by
  have hL := hw.2.2.2.2
  have hfi := h.2.2.2.2.2.1
  have hy : ∀ v, yMI S (pI s 67 0 v) := fun v => yMI_0 h
  have bad : (∀ R, fMo_copy_17 (d + 150) x1 x2 w 1 s = some R → fMo_copy (d + 150) x1 x2 w s = some R) → yMr s (fMo_copy (d + 150) x1 x2 w s) (1, 0, S) := fun go => by
    refine ⟨pI s 67 0 (nI 1), go _ (eMo_copy_17 (d + 149) _ _ _ _ _ _ ?_), by rw [gI_pI, if_pos ⟨rfl, rfl⟩], hy _, xMo_0⟩
    have e0 : fMo_refused (d + 149) 1 0 s = rI 1 (pI s 67 0 (nI 1)) := Mo_ref (d + 149) (a := true) (b := false)
    rw [e0, cG_I, if_neg (by decide)]
    rfl
  have e0 : fMo_refused (d + 149) 0 0 s = rI 0 (pI s 67 0 (nI 0)) := Mo_ref (d + 149) (a := false) (b := false)
  have i1 : ∀ x, fMo_isSubject (d + 149) x s = rI (uB (decide (¬ yNo x 3))) s := fun x => Mo_isS (d + 148)
  unfold y_copy at hr
  by_cases hx : yNo x1 3
  · rw [if_pos hx] at hr
    rw [hr]
    refine bad (fun R hR => eMo_copy (d + 149) _ _ _ _ _ ?_)
    rw [i1, cG_I, show decide (¬ yNo x1 3) = false from decide_eq_false (fun e => e hx), if_pos (by decide)]
    exact eMo_copy_14 (d + 149) _ _ _ _ _ hR
  rw [if_neg hx] at hr
  by_cases hx2 : yNo x2 3
  · rw [if_pos hx2] at hr
    rw [hr]
    refine bad (fun R hR => eMo_copy (d + 149) _ _ _ _ _ ?_)
    rw [i1, cG_I, show decide (¬ yNo x1 3) = true from decide_eq_true hx, if_neg (by decide), i1, cG_I, show decide (¬ yNo x2 3) = false from decide_eq_false (fun e => e hx2), if_pos (by decide)]
    exact eMo_copy_14 (d + 149) _ _ _ _ _ hR
  rw [if_neg hx2] at hr
  by_cases hd : S.dn = true
  · rw [if_pos hd] at hr
    rw [hr]
    refine ⟨pI s 67 0 (nI 0), eMo_copy (d + 149) _ _ _ _ _ ?_, by rw [gI_pI, if_pos ⟨rfl, rfl⟩], hy _, xMo_0⟩
    rw [i1, cG_I, show decide (¬ yNo x1 3) = true from decide_eq_true hx, if_neg (by decide), i1, cG_I, show decide (¬ yNo x2 3) = true from decide_eq_true hx2, if_neg (by decide), h.1.2, if_pos (by rw [hd]; decide)]
    refine eMo_copy_16 (d + 149) _ _ _ _ _ (eMo_copy_17 (d + 149) _ _ _ _ _ _ ?_)
    rw [e0, cG_I, if_pos rfl, (hy _).1.2, if_neg (by rw [hd]; decide)]
    rfl
  rw [if_neg hd] at hr
  have hd0 : S.dn = false := by simpa using hd
  obtain ⟨n, n1, rfl⟩ := yNo_n (by omega) hx
  obtain ⟨m, m1, rfl⟩ := yNo_n (by omega) hx2
  rw [nI_ti2 (n := n) (by omega), nI_ti2 (n := m) (by omega)] at hr
  have iv : fMo_isVersion (d + 149) (nI m) w s = rI (uB (decide (yVa S.fs m w))) s := Mo_isv hL hfi (d + 147) (by omega)
  have go : ∀ R, cG (fMo_isVersion (d + 149) (nI m) w s) (kI fun v6 s5 => if ¬ v6 = 0 then fMo_copy_16 (d + 150) (nI n) (nI m) w s5 else fMo_copy_14 (d + 150) (nI n) (nI m) w s5) = some R → fMo_copy (d + 150) (nI n) (nI m) w s = some R := fun R hR => by
    refine eMo_copy (d + 149) _ _ _ _ _ ?_
    rw [i1, cG_I, show decide (¬ yNo (nI n) 3) = true from decide_eq_true hx, if_neg (by decide), i1, cG_I, show decide (¬ yNo (nI m) 3) = true from decide_eq_true hx2, if_neg (by decide), h.1.2, if_neg (by rw [hd0]; decide)]
    exact hR
  by_cases hv : yVa S.fs m w
  · rw [if_pos hv] at hr
    obtain ⟨gs, Ms, bs, hts, hr⟩ := hr
    obtain ⟨v, rfl, _, v3⟩ := yVa_n hL hv
    have v16 := (yVa_of hL v3).2
    rw [nI_ti2 (n := v) (by omega)] at hts hr
    have ir := Mo_rs (s := pI s 67 0 (nI 0)) (hy _).2.2.2.2.2.1 hL.1 (d + 149) (x := n) (by omega)
    have hN := yRs_40 hL n (Nat.le_refl S.fs.length)
    have go2 : ∀ R, (if ¬ nI (yRs S.fs n S.fs.length) = 0 then cG (fMo_readVersion (d + 149) 113 (nI m) (nI v) (pI s 67 0 (nI 0))) (kV fun s5 => fMo_copy_48 (d + 150) (nI n) (nI m) (nI v) (nI (yRs S.fs n S.fs.length)) 0 0 s5) else rI (-34) (pI s 67 0 (nI 0))) = some R → fMo_copy (d + 150) (nI n) (nI m) (nI v) s = some R := fun R hR => by
      refine go R ?_
      rw [iv, cG_I, show decide (yVa S.fs m (nI v)) = true from decide_eq_true hv, if_pos (by decide)]
      refine eMo_copy_16 (d + 149) _ _ _ _ _ (eMo_copy_17 (d + 149) _ _ _ _ _ _ ?_)
      rw [e0, cG_I, if_pos rfl, (hy _).1.2, if_pos (by rw [hd0]; rfl), ir, cG_I]
      exact hR
    by_cases h0 : yRs S.fs n S.fs.length = 0
    · rw [h0] at hr go2
      have er : yCo S m v (yVd S.fs m v) Ms bs 0 = (0, -34, S) := rfl
      rw [hr, er]
      refine ⟨pI s 67 0 (nI 0), go2 _ ?_, by rw [gI_pI, if_pos ⟨rfl, rfl⟩], hy _, xMo_0⟩
      rw [if_neg (fun e => e rfl)]
      try rfl
    · obtain ⟨s1, q1, q2, q3, q4, _⟩ := Mo_rdv hL (hy (nI 0)) v3 (.inr rfl) (d + 90)
      have hM1 : yMI S s1 := yMI_fr (fun k i hk hn => (q2 k i (by
        by_cases e : 113 ≤ k ∧ k < 135
        · exact absurd (show xTm k i by unfold xTm; omega) hn
        · omega)).1) (hy (nI 0))
      have h01 : gI s1 67 0 = nI 0 := by rw [(q2 67 0 (by omega)).1, gI_pI, if_pos ⟨rfl, rfl⟩]
      obtain ⟨s', z1, z2, z3, z4⟩ := Mo_c48 (s0 := s1) hw hM1 h01 (n := n) (by omega) v3 q4 q3 hts d S.fs.length 0 (by omega) s1 ⟨⟨fun _ _ _ _ _ _ => rfl, fun _ _ _ => rfl, rfl⟩, fun i hi => absurd hi (Nat.not_lt_zero _), Nat.zero_le _, fun i hi => absurd hi (Nat.not_lt_zero _)⟩
      have e00 : yRs S.fs n 0 = 0 := rfl
      rw [e00, yCg_0] at z1 z3
      rw [hr]
      refine ⟨s', go2 _ ?_, by rw [yCo_1]; exact z2, z3, xMo_t xMo_0 (xMo_t ⟨fun k i hk => (q2 k i (by omega)).1, by rw [Mo_rdvU hL (hy (nI 0)) v3 (.inr rfl) (d + 90) q1]; exact Nat.le_refl _, (q2 149 0 (by omega)).2⟩ z4)⟩
      rw [if_pos (show ¬ nI (yRs S.fs n S.fs.length) = 0 by rw [show (0 : Int32) = nI 0 from rfl, nI_eqE (by omega) (by omega)]; exact h0), show d + 149 = d + 90 + 59 by omega, q1, cG_V]
      exact z1
  · rw [if_neg hv] at hr
    rw [hr]
    refine bad (fun R hR => go R ?_)
    rw [iv, cG_I, show decide (yVa S.fs m w) = false from decide_eq_false hv, if_neg (by decide)]
    exact eMo_copy_14 (d + 149) _ _ _ _ _ hR
end
