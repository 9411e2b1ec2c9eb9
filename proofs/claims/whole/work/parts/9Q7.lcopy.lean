/-! copy: the lake -/
section
variable {L : List yFi} {s0 : aT} {n : Nat} {gs : Nat → Nat → Nat} {Ms : Nat → List Nat} {bs : Nat → Bool}
theorem Lk_g12 (hL : yLw L) (hfi : lFi L s0) (hsc : lSc L s0) (hdf : lDf L s0) (hVV : ∀ i, i < 32768 → ∃ v, v < 256 ∧ gI s0 57 i = mI v) {mm v : Nat} (hn : n < 4) (hvf : yVf L mm v ≠ 0) (hts : yTs L n (yVd L mm v) gs Ms bs) (d : Nat) : ∀ j k, k + j = L.length → ∀ s, yGi s0 (yQ (yVd L mm v)) (yX (yVd L mm v)) Ms (yRs L n k) s → yGo s0 (yQ (yVd L mm v)) (yX (yVd L mm v)) Ms bs (yRs L n L.length) (yRs L n k) (fLk_gather_12 (d + 108) (nI n) (nI (lo (yVb L mm v) (yX (yVd L mm v)))) (nI (yRs L n k)) (nI (yCat Ms (yRs L n k)).length) (uB (ySo (yQ (yVd L mm v)) (yX (yVd L mm v)) Ms (yRs L n k))) (nI k) s) := by
  have h40 := hL.1.1
  have hN := yRs_40 hL n (Nat.le_refl L.length)
  obtain ⟨b1, b2, b3, b4, b5, b6⟩ := Lk_ver hL hsc hvf
  intro j
  induction j with
  | zero =>
    intro k hk s hi
    have e : k = L.length := by omega
    subst e
    have e58 : gI s 58 5 = nI L.length := by rw [hi.1 58 5 (by omega) (by omega) (by omega) (by omega)]; exact hfi.1
    have hT := hi.2.2
    have eg : yGf Ms bs (yRs L n L.length - yRs L n L.length) (yRs L n L.length) = 0 := by rw [Nat.sub_self]; rfl
    have hz : (nI (yCat Ms (yRs L n L.length)).length = 0) = ((yCat Ms (yRs L n L.length)).length = 0) := by rw [show (0 : Int32) = nI 0 from rfl, nI_eqE (by omega) (by omega)]
    refine ⟨s, eLk_gather_12 (d + 107) _ _ _ _ _ _ _ _ ?_, hi.1, fun e => hi.2.1 e.2⟩
    unfold yGv
    rw [eg, if_pos rfl, e58, if_pos (Int32.le_refl _)]
    by_cases h0 : (yCat Ms (yRs L n L.length)).length = 0
    · rw [if_neg (fun e => e (hz.mpr h0)), if_pos h0]
      rfl
    · rw [if_pos (fun e => h0 (hz.mp e)), if_neg h0]
      cases hs : ySo (yQ (yVd L mm v)) (yX (yVd L mm v)) Ms (yRs L n L.length) with
      | true =>
        rw [if_neg (by decide), if_pos rfl]
        rfl
      | false =>
        rw [if_pos (by decide), if_neg (by decide)]
        rfl
  | succ j ih =>
    intro k hk s hi
    have hkl : k < L.length := by omega
    have fr : ∀ a b, 11 ≤ a ∧ a ≤ 45 ∨ 54 ≤ a → gI s a b = gI s0 a b := fun a b ha => hi.1 a b (by omega) (by omega) (by omega) (by omega)
    have hfi1 : lFi L s := lFi_fr (fun a b h1 h2 => fr a b (by omega)) hfi
    have hsc1 : lSc L s := lSc_fr (fun a b h1 h2 => fr a b (by omega)) hsc
    obtain ⟨a1, a2, a3, a4, a5⟩ := hfi1.2 k hkl
    have nxt := ih (k + 1) (by omega)
    have his := Fl_is hfi1 hL.1 (d + 107) hkl hn
    by_cases hy : yIs (L.getD k yF0) n
    · obtain ⟨r1, r2, r3, r4⟩ := yRow hL hkl hy
      obtain ⟨c1, c2, c3, c4, c5, c6⟩ := Lk_ver hL hsc r1
      have c4' := (Lk_ver hL hsc1 r1).2.2.2.1
      have hdf1 : lDf L s := fun i hi2 jj hj => by rw [fr 57 _ (by omega)]; exact hdf i hi2 jj hj
      have hVV1 : ∀ i, i < 32768 → ∃ v, v < 256 ∧ gI s 57 i = mI v := fun i hi2 => by rw [fr 57 _ (by omega)]; exact hVV i hi2
      obtain ⟨s1, o1, o2, o3, o4, o5⟩ := Lk_or hL hdf1 hfi1 hVV1 hkl hy.2 (d + 105)
      obtain ⟨hg, ht⟩ := hts k hkl hy
      have hm := yRs_mo (L := L) n (L.length - (k + 1)) (k + 1)
      rw [show k + 1 + (L.length - (k + 1)) = L.length by omega] at hm
      have h39 := Lk_g39 hL hfi (x1 := n) (v := (L.getD k yF0).2.1) (N := yRs L n L.length) c6 b1 c1 b6 hkl hy rfl hg ht hm hN (B := fun j => iM (gI s 57 j)) (st := 256 * (L.getD k yF0).2.2.1 + yPa (L.getD k yF0)) o5 d nxt ((L.getD k yF0).2.2.2.2.1 - 1) 0 (by omega) s1
      rw [Nat.add_zero] at h39
      refine yGo_go (h39 ⟨fun a b e1 e2 e3 e4 => by rw [o4 a b e2 e3]; exact hi.1 a b e1 e2 e3 e4, fun e => lBy_fr (fun a b e => o4 a b (by omega) (by omega)) (hi.2.1 e), hi.2.2⟩ o2 (by rw [hg.1, Nat.add_zero]; exact o3)) (fun z hz => eLk_gather_12 (d + 107) _ _ _ _ _ _ _ _ ?_)
      rw [hfi1.1, if_neg (show ¬ nI L.length ≤ nI k by rw [nI_leE (by omega) (by omega)]; omega), his, cG_I, if_pos hy, if_pos (by decide), ldI_n (by omega) (by omega), a2, c4', cG_I, o1, cG_V]
      exact hz
    · rw [yRs_N hy] at nxt
      refine yGo_go (nxt s hi) (fun z hz => eLk_gather_12 (d + 107) _ _ _ _ _ _ _ _ ?_)
      rw [hfi1.1, if_neg (show ¬ nI L.length ≤ nI k by rw [nI_leE (by omega) (by omega)]; omega), his, cG_I, if_neg hy, if_neg (by decide)]
      refine eLk_gather_81 (d + 107) _ _ _ _ _ _ _ _ ?_
      rw [nI_add1]
      exact hz
end
section
variable {c : Nat} {S : yS} {s : aT} {L : List yFi} {n : Nat} {gs : Nat → Nat → Nat} {Ms : Nat → List Nat} {bs : Nat → Bool}
theorem Lk_gather (hw : yWf S) (h : yLI c S s) (hd : S.dn = false) {mm v : Nat} (hn : n < 4) (hvf : yVf S.fs mm v ≠ 0) (hts : yTs S.fs n (yVd S.fs mm v) gs Ms bs) (d : Nat) : yGo s (yQ (yVd S.fs mm v)) (yX (yVd S.fs mm v)) Ms bs (yRs S.fs n S.fs.length) 0 (fLk_gather (d + 108) (nI n) (nI (lo (yVb S.fs mm v) (yX (yVd S.fs mm v)))) s) := by
  have hL := hw.2.2.2.2
  have hsc := h.2.2.2.2.2.1
  have hfi := h.2.2.2.2.1
  rw [yUp_f hd] at hsc hfi
  have hg := Lk_g12 (s0 := s) hL hfi hsc h.2.2.2.2.2.2.1 (yLC_V (yLC_of h)) hn hvf hts d S.fs.length 0 (by omega) (pI s 9 1 0) ⟨fun k i e1 e2 e3 e4 => by rw [gI_pI, if_neg (by omega)], fun _ => lBy_e, Nat.zero_le _⟩
  refine yGo_go hg (fun z hz => eLk_gather (d + 107) _ _ _ _ ?_)
  rw [wI_eq]
  exact hz
/-- rows that are there, told: as many as bytes, at most -/
theorem yTs_pos {R : List Nat} (hL : yLw L) (hR : yVk R) (h : yTs L n R gs Ms bs) (h0 : yGf Ms bs (yRs L n L.length) 0 = 0) (hT : (yCat Ms (yRs L n L.length)).length ≠ 0) : (∀ i, i < yRs L n L.length → kBt (Ms i) ∧ kWz (yQ R) 114 (yX R) (Ms i)) ∧ (∀ i, i < yRs L n L.length → 0 < (Ms i).length) ∧ yRs L n L.length ≤ (yCat Ms (yRs L n L.length)).length ∧ 1 ≤ yRs L n L.length := by
  obtain ⟨hI, hcd, hy⟩ := yVk_iv hR
  have hM : ∀ i, i < yRs L n L.length → kBt (Ms i) ∧ kWz (yQ R) 114 (yX R) (Ms i) := fun i hi => by
    obtain ⟨a1, a2⟩ := yTs_at hL hR h hi
    exact ⟨a1, a2 (yGf_0 _ _ h0 i (by omega) (by omega)).2⟩
  obtain ⟨p1, p2⟩ := yCat_pos hI hcd hy hM (by omega)
  refine ⟨hM, p1, p2, ?_⟩
  generalize yRs L n L.length = N at *
  cases N with
  | zero => exact absurd rfl hT
  | succ N => omega
theorem yLI_ga (h : yLI c S s) {s' : aT} (hx : xGa s s') : yLI (c + 1) S s' ∧ xLk s s' := ⟨yLI_fr (fun k i _ hn => hx k i (fun e => hn (by unfold xTr; omega)) (fun e => hn (by unfold xTr; omega)) (fun e => hn (by unfold xTr; omega)) (fun e => hn (by unfold xTr; omega))) (by omega) h, fun k i hk => hx k i (by omega) (by omega) (by omega) (by omega)⟩
theorem nEg_0le {k : Nat} (h : k = 20 ∨ k = 31) : ¬ (0 : Int32) ≤ nEg k := by
  rcases h with rfl | rfl <;> decide
theorem L_copy (hw : yWf S) (hc : c ≤ 100000) (h : yLI c S s) (d : Nat) {E : Nat → Nat} (hE : E 1 = 2) (x1 x2 w : Int32) {r : Nat × Int32 × yS} (hr : y_copy x1 x2 w S r) : yLr c s E (fLk_copy (d + 109) x1 x2 w s) r := by
  have hL := hw.2.2.2.2
  refine yLr_go ?_ (fun r hr => eLk_copy (d + 108) _ _ _ _ _ hr)
  unfold y_copy at hr
  by_cases hx : yNo x1 3
  · rw [if_pos hx] at hr
    rw [hr]
    refine yLr_k (by omega) ?_
    rw [Lk_ns, if_pos hx, hE]
    rfl
  rw [if_neg hx] at hr
  rw [Lk_ns, if_neg hx, cG_V]
  by_cases hx2 : yNo x2 3
  · rw [if_pos hx2] at hr
    rw [hr]
    refine yLr_k (by omega) ?_
    rw [Lk_ns, if_pos hx2, hE]
    rfl
  rw [if_neg hx2] at hr
  rw [Lk_ns, if_neg hx2, cG_V, h.1.2]
  by_cases hd : S.dn = true
  · rw [if_pos hd] at hr
    rw [hr, if_neg (by rw [hd]; decide)]
    exact yLr_0 ⟨s, rfl, yLI_c (by omega) h, xLk_r⟩
  rw [if_neg hd] at hr
  have hd0 : S.dn = false := by simpa using hd
  have hsc := h.2.2.2.2.2.1
  rw [yUp_f hd0] at hsc
  obtain ⟨n, n1, rfl⟩ := yNo_n (by omega) hx
  obtain ⟨m, m1, rfl⟩ := yNo_n (by omega) hx2
  rw [nI_ti2 (n := n) (by omega), nI_ti2 (n := m) (by omega)] at hr
  rw [if_pos (by rw [hd0]; rfl), Lk_nv hL hsc (d + 108) (by omega)]
  by_cases hv : yVa S.fs m w
  · rw [if_pos hv] at hr
    obtain ⟨gs, Ms, bs, hts, hr⟩ := hr
    obtain ⟨v, rfl, _, v3⟩ := yVa_n hL hv
    have v16 := (yVa_of hL v3).2
    rw [nI_ti2 (n := v) (by omega)] at hts hr
    obtain ⟨a1, a2, a3, a4, a5, a6⟩ := Lk_ver hL hsc v3
    obtain ⟨s', g1, g2, g3⟩ := Lk_gather hw h hd0 (n := n) (by omega) v3 hts d
    obtain ⟨y1, y2⟩ := yLI_ga h g2
    have hN := yRs_40 hL n (Nat.le_refl S.fs.length)
    rw [if_pos hv, cG_V, a4, cG_I, g1, cG_I, hr]
    unfold yGv yCo
    rw [Nat.sub_zero] at g3 ⊢
    by_cases h0 : yGf Ms bs (yRs S.fs n S.fs.length) 0 = 0
    · rw [if_pos h0, if_pos h0]
      by_cases hT : (yCat Ms (yRs S.fs n S.fs.length)).length = 0
      · rw [if_pos hT, if_pos hT, if_neg (by decide)]
        exact yLr_0 ⟨s', rfl, y1, y2⟩
      · rw [if_neg hT, if_neg hT]
        cases hs : ySo (yQ (yVd S.fs m v)) (yX (yVd S.fs m v)) Ms (yRs S.fs n S.fs.length) with
        | false =>
          rw [if_neg (show ¬ (false = true) by decide), if_neg (show ¬ (false = true) by decide), if_neg (by decide)]
          exact yLr_0 ⟨s', rfl, y1, y2⟩
        | true =>
          rw [if_pos rfl, if_pos rfl]
          have h9 := g3 ⟨h0, hs⟩
          obtain ⟨_, _, p2, p3⟩ := yTs_pos hL a1 hts h0 hT
          have hT4 := ((ySo_iff _).mp hs).1
          generalize yRs S.fs n S.fs.length = N at *
          generalize yCat Ms N = C at *
          rw [if_pos (show (0 : Int32) ≤ nI N by rw [show (0 : Int32) = nI 0 from rfl, nI_leE (by omega) (by omega)]; omega)]
          have hpk := Lk_pack (t := s') (.inr rfl) h9 hT4 (k := N) (by omega) (d + 101)
          have oc : ∀ (P : List Nat) k i, k ≠ 11 → k ≠ 12 → gI (oB 11 P s') k i = gI s' k i := fun P k i a b => oB_o a (by omega)
          have y1' : yLI c S s' := yLI_fr (fun k i _ hn => g2 k i (fun e => hn (by unfold xTr; omega)) (fun e => hn (by unfold xTr; omega)) (fun e => hn (by unfold xTr; omega)) (fun e => hn (by unfold xTr; omega))) (Nat.le_refl _) h
          have ly : ∀ P : List Nat, yLI c S (oB 11 P s') := fun P => yLI_fr (fun k i hk hx => oc P k i (fun e => hx (by unfold xTr; omega)) (fun e => hx (by unfold xTr; omega))) (Nat.le_refl _) y1'
          have lx : ∀ P : List Nat, xLk s (oB 11 P s') := fun P k i hk => by rw [oc P k i (by omega) (by omega)]; exact y2 k i hk
          by_cases hfit : yWa N C.length ≤ 4096
          · rw [if_pos hfit] at hpk
            have hP : lBy 11 (yPr N C) (oB 11 (yPr N C) s') := lBy_oB (yPr_bt h9.2.2.1) (by rw [yPr_len]; exact hfit)
            obtain ⟨s2, r1, r2, r3⟩ := Lk_rst (S := S) hL hw.2.2.2.1 hd0 (ly (yPr N C)) hc hP hfit ⟨by omega, by omega⟩ (x := m) (v := v) (by omega) v16 (d + 94)
            rw [hpk, cG_I, if_neg (by decide), show d + 108 = d + 94 + 14 by omega, r1, cG_I]
            have hcs := ySt_cs (S := S) (x := m) (v := v) (want := yWa N C.length) (rw := N + 1) (C := C)
            generalize ySt S m v (yWa N C.length) (N + 1) C = Q at *
            obtain ⟨R1, R2⟩ := Q
            unfold yCs
            rcases hcs with e | e | e
            · cases e
              rw [if_neg (show ¬ 31 = 0 by decide)]
              refine yLr_0 ⟨s2, eLk_copy_39 (d + 108) _ _ _ _ ?_, r2, xLk_t (lx _) r3⟩
              rw [if_pos (show ¬ nEg 31 = 0 by decide)]
              rfl
            · have e : R1 = 32 := e
              subst e
              rw [if_neg (show ¬ 32 = 0 by decide)]
              refine yLr_0 ⟨s2, eLk_copy_39 (d + 108) _ _ _ _ ?_, r2, xLk_t (lx _) r3⟩
              rw [if_pos (show ¬ nEg 32 = 0 by decide)]
              rfl
            · have e : R1 = 0 := e
              subst e
              rw [if_pos (show (0 : Nat) = 0 from rfl)]
              refine yLr_0 ⟨s2, eLk_copy_39 (d + 108) _ _ _ _ ?_, r2, xLk_t (lx _) r3⟩
              rw [if_neg (show ¬ ¬ nEg 0 = 0 by decide)]
              rfl
          · rw [if_neg hfit] at hpk
            obtain ⟨L', hpk⟩ := hpk
            have er : ySt S m v (yWa N C.length) (N + 1) C = (31, S) := if_pos (.inl (by omega))
            rw [er, hpk, cG_I, if_pos rfl]
            unfold yCs
            rw [if_neg (show ¬ 31 = 0 by decide)]
            refine yLr_0 ⟨oB 11 L' s', eLk_copy_39 (d + 108) _ _ _ _ ?_, yLI_c (by omega) (ly L'), lx L'⟩
            rw [if_pos (by decide)]
            rfl
    · rw [if_neg h0, if_neg h0]
      have hn := yGf_n (Ms := Ms) (bs := bs) (yRs S.fs n S.fs.length) 0
      rw [if_neg (nEg_0le (by omega))]
      exact yLr_0 ⟨s', rfl, y1, y2⟩
  · rw [if_neg hv] at hr
    rw [hr, if_neg hv]
    refine yLr_k (by omega) ?_
    rw [hE]
    rfl
end
