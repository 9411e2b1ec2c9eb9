/-! compact: the lake, the whole -/
section
variable {c : Nat} {S : yS} {s : aT} {L : List yFi} {n a b : Nat}
theorem Lk_sf (hL : yLw L) (hsc : lSc L s) (hl : lFi L s) (hal : a < L.length) (hbl : b < L.length) (ha : yIs (L.getD a yF0) n) (hb : yIs (L.getD b yF0) n) (d : Nat) : ∃ t, fLk_sameForm (d + 60) (nI a) (nI b) s = rI (uB (decide (yPf (yVd L n (L.getD a yF0).2.1) = yPf (yVd L n (L.getD b yF0).2.1)))) t ∧ (∀ k i, k < 41 ∨ 46 ≤ k → gI t k i = gI s k i) := by
  have h40 := hL.1.1
  obtain ⟨r1, _⟩ := yRow hL hal ha
  obtain ⟨r2, _⟩ := yRow hL hbl hb
  obtain ⟨a1, a2, a3, a4, a5, a6⟩ := Lk_ver hL hsc r1
  obtain ⟨b1, b2, b3, b4, b5, b6⟩ := Lk_ver hL hsc r2
  obtain ⟨l1, l2, l3, l4, l5⟩ := hl.2 a hal
  obtain ⟨k1, k2, k3, k4, k5⟩ := hl.2 b hbl
  obtain ⟨t, t1, t2, _⟩ := Pf_same d (lRo_y a1 a6.1) (lRo_y b1 b6.1)
  have t1 : fPf_isSame (d + 59) (nI (lo (yVb L n (L.getD a yF0).2.1) (yX (yVd L n (L.getD a yF0).2.1)))) (nI (lo (yVb L n (L.getD b yF0).2.1) (yX (yVd L n (L.getD b yF0).2.1)))) s = rI (if yPf (yVd L n (L.getD a yF0).2.1) = yPf (yVd L n (L.getD b yF0).2.1) then 1 else 0) t := t1
  refine ⟨t, eLk_sameForm (d + 59) _ _ _ _ ?_, t2⟩
  rw [ldI_n (by omega) (by omega), l1, ha.1, ldI_n (by omega) (by omega), l2, a4, cG_I, ldI_n (by omega) (by omega), k2, b4, cG_I, t1, cG_I]
  by_cases e : yPf (yVd L n (L.getD a yF0).2.1) = yPf (yVd L n (L.getD b yF0).2.1)
  · rw [decide_eq_true e, if_pos e]
    exact rZ1 _
  · rw [decide_eq_false e, if_neg e]
    exact rZ0 _
theorem Lk_gf (hL : yLw L) (hdf : lDf L s) (hl : lFi L s) (hV : ∀ i, i < 32768 → ∃ v, v < 256 ∧ gI s 57 i = mI v) {i : Nat} (hi : i < L.length) (hr : (L.getD i yF0).2.2.2.2.1 ≠ 0) {G : List Nat} (h9 : lBy 9 G s) (d : Nat) : ∃ s', fLk_gatherFile (d + 7) (nI i) s = rI (uB (decide ((G ++ (L.getD i yF0).2.2.2.2.2).length ≤ 4096))) s' ∧ (∀ k i, k ≠ 9 → k ≠ 10 → ¬ (46 ≤ k ∧ k ≤ 48) → k ≠ 52 → gI s' k i = gI s k i) ∧ ((G ++ (L.getD i yF0).2.2.2.2.2).length ≤ 4096 → lBy 9 (G ++ (L.getD i yF0).2.2.2.2.2) s') := by
  obtain ⟨c1, c2, _⟩ := hL.2.2.2 i hi hr
  obtain ⟨b1, b2, b3, b4, b5⟩ := hL.1.2 i hi
  have hdl := (yLw_dl hL hi).2
  have hbn := yBk_n (L.getD i yF0).2.2.2.1
  have hwa : (L.getD i yF0).2.2.2.1 = yPa (L.getD i yF0) + (L.getD i yF0).2.2.2.2.2.length + 8 := by rw [c2]; unfold yWa yPa; omega
  obtain ⟨s1, o1, o2, o3, o4, o5⟩ := Lk_or hL hdf hl hV hi hr (d + 4)
  have h9' : lBy 9 G s1 := lBy_fr (fun k i e => o4 k i (by omega) (by omega)) h9
  have hG : G.length ≤ 4096 := h9.2.2.2
  have hlen : (G ++ (L.getD i yF0).2.2.2.2.2).length = G.length + (L.getD i yF0).2.2.2.2.2.length := List.length_append
  have o52 := o2.2.1
  have hst : 256 * (L.getD i yF0).2.2.1 + yPa (L.getD i yF0) + (L.getD i yF0).2.2.2.2.2.length ≤ 32768 := by omega
  generalize 256 * (L.getD i yF0).2.2.1 + yPa (L.getD i yF0) = st at *
  generalize (L.getD i yF0).2.2.2.2.2 = C at *
  have esub : nI (st + C.length) - nI st = nI C.length := by
    rw [nI_sub (by omega)]
    congr 1
    omega
  have go : ∀ r, cG (fBy_putRow (d + 6) 9 57 (nI st) (nI C.length) s1) (kI fun v3 s2 => rZ v3 s2) = some r → fLk_gatherFile (d + 7) (nI i) s = some r := fun r hr => by
    refine eLk_gatherFile (d + 6) _ _ _ ?_
    rw [o1, cG_V, o3, o52, esub]
    exact hr
  by_cases hq : (G ++ C).length ≤ 4096
  · rw [decide_eq_true hq]
    have hp := Ob_row d (c := 9) (L := G) (M := C) (t := s1) (by unfold isB; decide) (a := 57) (st := st) (by show G.length + C.length ≤ 4096; omega) rfl (by show st + C.length ≤ 32768; omega) (by decide) (by omega) (fun i hi => by rw [lBy_id h9', o2.2.2.2.1 (st + i) (by omega)]; show mI (iM (gI s 57 (st + i))) = _; rw [o5 i hi]) (fun i _ => kBt_gd c1 i)
    rw [lBy_id h9'] at hp
    refine ⟨oB 9 (G ++ C) s1, go _ ?_, fun k i x1 x2 x3 x4 => by rw [oB_o x1 (by omega)]; exact o4 k i x3 x4, fun _ => lBy_oB (kBt_a h9.2.2.1 c1) hq⟩
    rw [hp, cG_I]
    exact rZ1 _
  · rw [decide_eq_false hq]
    have hp := Ob_rowF d (c := 9) (L := G) (t := s1) (by unfold isB; decide) (a := 57) (st := st) (k := C.length) hG (by show 4096 < G.length + C.length; omega) rfl (by show st + C.length ≤ 32768; omega) (by decide)
    rw [lBy_id h9'] at hp
    refine ⟨s1, go _ ?_, fun k i x1 x2 x3 x4 => o4 k i x3 x4, fun e => absurd e hq⟩
    rw [hp, cG_I]
    exact rZ0 _
theorem Lk_pb (hL : yLw L) (hdf : lDf L s) (hl : lFi L s) (hV : ∀ i, i < 32768 → ∃ v, v < 256 ∧ gI s 57 i = mI v) (hal : a < L.length) (hbl : b < L.length) (ha : (L.getD a yF0).2.2.2.2.1 ≠ 0) (hb : (L.getD b yF0).2.2.2.2.1 ≠ 0) (d : Nat) : ∃ s', fLk_packBoth (d + 8) (nI a) (nI b) s = rI (uB (decide (yJw L a b ≤ 4096))) s' ∧ (∀ k i, ¬ (9 ≤ k ∧ k ≤ 12) → ¬ (46 ≤ k ∧ k ≤ 48) → k ≠ 52 → gI s' k i = gI s k i) ∧ (yJw L a b ≤ 4096 → lBy 11 (yPr (((L.getD a yF0).2.2.2.2.1 - 1) + ((L.getD b yF0).2.2.2.2.1 - 1)) ((L.getD a yF0).2.2.2.2.2 ++ (L.getD b yF0).2.2.2.2.2)) s') := by
  have h40 := hL.1.1
  obtain ⟨c1, c2, c3, c4, c5⟩ := hL.1.2 a hal
  obtain ⟨d1, d2, d3, d4, d5⟩ := hL.1.2 b hbl
  have of : ∀ t : aT, (∀ k i, ¬ (9 ≤ k ∧ k ≤ 12) → ¬ (46 ≤ k ∧ k ≤ 48) → k ≠ 52 → gI t k i = gI s k i) → lDf L t ∧ lFi L t ∧ ∀ i, i < 32768 → ∃ v, v < 256 ∧ gI t 57 i = mI v := fun t ht => ⟨fun i hi j hj => by rw [ht 57 _ (by omega) (by omega) (by omega)]; exact hdf i hi j hj, lFi_fr (fun k i x y => ht k i (by omega) (by omega) (by omega)) hl, fun i hi => by rw [ht 57 _ (by omega) (by omega) (by omega)]; exact hV i hi⟩
  have f0 : ∀ k i, ¬ (9 ≤ k ∧ k ≤ 12) → ¬ (46 ≤ k ∧ k ≤ 48) → k ≠ 52 → gI (pI s 9 1 0) k i = gI s k i := fun k i x y z => by rw [gI_pI, if_neg (by omega)]
  obtain ⟨v1, v2, v3⟩ := of _ f0
  obtain ⟨s1, p1, p2, p3⟩ := Lk_gf hL v1 v2 v3 hal ha lBy_e d
  rw [List.nil_append] at p1 p3
  rw [decide_eq_true c5] at p1
  have h9 := p3 c5
  have f1 : ∀ k i, ¬ (9 ≤ k ∧ k ≤ 12) → ¬ (46 ≤ k ∧ k ≤ 48) → k ≠ 52 → gI s1 k i = gI s k i := fun k i x y z => by rw [p2 k i (by omega) (by omega) y z]; exact f0 k i x y z
  obtain ⟨v1, v2, v3⟩ := of _ f1
  obtain ⟨s2, r1, r2, r3⟩ := Lk_gf hL v1 v2 v3 hbl hb h9 d
  have f2 : ∀ k i, ¬ (9 ≤ k ∧ k ≤ 12) → ¬ (46 ≤ k ∧ k ≤ 48) → k ≠ 52 → gI s2 k i = gI s k i := fun k i x y z => by rw [r2 k i (by omega) (by omega) y z]; exact f1 k i x y z
  have hlen : ((L.getD a yF0).2.2.2.2.2 ++ (L.getD b yF0).2.2.2.2.2).length = (L.getD a yF0).2.2.2.2.2.length + (L.getD b yF0).2.2.2.2.2.length := List.length_append
  have eJ : yJw L a b = yWa (((L.getD a yF0).2.2.2.2.1 - 1) + ((L.getD b yF0).2.2.2.2.1 - 1)) ((L.getD a yF0).2.2.2.2.2 ++ (L.getD b yF0).2.2.2.2.2).length := by rw [hlen]; rfl
  have go : ∀ r, (if uB (decide (((L.getD a yF0).2.2.2.2.2 ++ (L.getD b yF0).2.2.2.2.2).length ≤ 4096)) = 0 then rI 0 s2 else ldI 40 s2 63 (nI a) (fun v6 => ldI 40 s2 63 (nI b) (fun v7 => cG (fLk_pack (d + 7) (v6 + v7) 9 s2) (kI fun v9 s8 => if v9 = 0 then rI 0 s8 else rI 1 s8)))) = some r → fLk_packBoth (d + 8) (nI a) (nI b) s = some r := fun r hr => by
    refine eLk_packBoth (d + 7) _ _ _ _ ?_
    rw [wI_eq, p1, cG_I, if_neg (by decide), r1, cG_I]
    exact hr
  by_cases hq : ((L.getD a yF0).2.2.2.2.2 ++ (L.getD b yF0).2.2.2.2.2).length ≤ 4096
  · have h9b := r3 hq
    rw [decide_eq_true hq, if_neg (show ¬ uB true = 0 by decide)] at go
    have e63 : ∀ i, gI s2 63 i = gI s 63 i := fun i => f2 63 i (by omega) (by omega) (by omega)
    have ek : zI (L.getD a yF0).2.2.2.2.1 + zI (L.getD b yF0).2.2.2.2.1 = nI (((L.getD a yF0).2.2.2.2.1 - 1) + ((L.getD b yF0).2.2.2.2.1 - 1)) := by rw [zI_pos (x := (L.getD a yF0).2.2.2.2.1) (Nat.pos_of_ne_zero ha), zI_pos (x := (L.getD b yF0).2.2.2.2.1) (Nat.pos_of_ne_zero hb), nI_addE]
    have hpk := Lk_pack (t := s2) (.inr rfl) h9b hq (k := ((L.getD a yF0).2.2.2.2.1 - 1) + ((L.getD b yF0).2.2.2.2.1 - 1)) (by omega) d
    have go2 : ∀ r, cG (fLk_pack (d + 7) (nI (((L.getD a yF0).2.2.2.2.1 - 1) + ((L.getD b yF0).2.2.2.2.1 - 1))) 9 s2) (kI fun v9 s8 => if v9 = 0 then rI 0 s8 else rI 1 s8) = some r → fLk_packBoth (d + 8) (nI a) (nI b) s = some r := fun r hr => by
      refine go r ?_
      rw [ldI_n (by omega) (by omega), ldI_n (by omega) (by omega), e63, e63, (hl.2 a hal).2.2.2.2, (hl.2 b hbl).2.2.2.2, ek]
      exact hr
    rw [← eJ] at hpk
    by_cases hw : yJw L a b ≤ 4096
    · rw [if_pos hw] at hpk
      rw [decide_eq_true hw]
      refine ⟨oB 11 (yPr (((L.getD a yF0).2.2.2.2.1 - 1) + ((L.getD b yF0).2.2.2.2.1 - 1)) ((L.getD a yF0).2.2.2.2.2 ++ (L.getD b yF0).2.2.2.2.2)) s2, go2 _ ?_, fun k i x y z => ?_, fun _ => lBy_oB (yPr_bt h9b.2.2.1) (by rw [yPr_len, ← eJ]; exact hw)⟩
      · rw [hpk, cG_I, if_neg (by decide)]
        rfl
      · rw [oB_o (by omega) (by omega)]
        exact f2 k i x y z
    · rw [if_neg hw] at hpk
      obtain ⟨L', hpk⟩ := hpk
      rw [decide_eq_false hw]
      refine ⟨oB 11 L' s2, go2 _ ?_, fun k i x y z => ?_, fun e => absurd e hw⟩
      · rw [hpk, cG_I, if_pos rfl]
        rfl
      · rw [oB_o (by omega) (by omega)]
        exact f2 k i x y z
  · have hw : ¬ yJw L a b ≤ 4096 := fun e => hq (by
      rw [eJ] at e
      unfold yWa at e
      omega)
    rw [decide_eq_false hw]
    refine ⟨s2, go _ ?_, f2, fun e => absurd e hw⟩
    rw [decide_eq_false hq, if_pos (by decide)]
    rfl
/-- all files -/
theorem Lk_c9 (hw : yWf S) (hd0 : S.dn = false) (hc : c ≤ 100000) {s0 : aT} (hn : n < 4) (d : Nat) : ∀ j k, k + j = S.fs.length → ∀ s, yLI c S s → xLk s0 s → ∃ s', fLk_compact_9 (d + 61) (nI n) (nI k) s = rI (yJr S (yCk S.fs n j k)).2.1 s' ∧ yLI (c + 1) (yJr S (yCk S.fs n j k)).2.2 s' ∧ xLk s0 s' := by
  have hL := hw.2.2.2.2
  have h40 := hL.1.1
  intro j
  induction j with
  | zero =>
    intro k hk s h hx
    have hfi := h.2.2.2.2.1
    rw [yUp_f hd0] at hfi
    refine ⟨s, eLk_compact_9 (d + 60) _ _ _ _ ?_, yLI_c (by omega) h, hx⟩
    rw [hfi.1, if_pos (show nI S.fs.length ≤ nI k by rw [nI_leE (by omega) (by omega)]; omega)]
    rfl
  | succ j ih =>
    intro k hk s h hx
    have hfi := h.2.2.2.2.1
    have hsc := h.2.2.2.2.2.1
    rw [yUp_f hd0] at hfi hsc
    have hkl : k < S.fs.length := by omega
    have his := Fl_is hfi hL.1 (d + 60) hkl hn
    have ec : yCk S.fs n (j + 1) k = if yIs (S.fs.getD k yF0) n ∧ yNx S.fs n (k + 1) ≠ 0 ∧ yPok S.fs n k (yNx S.fs n (k + 1) - 1) then some (k, yNx S.fs n (k + 1) - 1) else yCk S.fs n j (k + 1) := rfl
    rw [ec]
    -- no luck here
    have nx : ∀ s1, yLI c S s1 → xLk s0 s1 → (∀ r, fLk_compact_48 (d + 61) (nI n) (nI k) s1 = some r → fLk_compact_9 (d + 61) (nI n) (nI k) s = some r) → ∃ s', fLk_compact_9 (d + 61) (nI n) (nI k) s = rI (yJr S (yCk S.fs n j (k + 1))).2.1 s' ∧ yLI (c + 1) (yJr S (yCk S.fs n j (k + 1))).2.2 s' ∧ xLk s0 s' := fun s1 y1 y2 go => by
      obtain ⟨s', z1, z2⟩ := ih (k + 1) (by omega) s1 y1 y2
      refine ⟨s', go _ (eLk_compact_48 (d + 60) _ _ _ _ ?_), z2⟩
      rw [nI_add1]
      exact z1
    have go1 : ∀ r, (cG (fFl_isRowsOf (d + 60) (nI k) (nI n) s) (kI fun v2 s1 => if v2 = 0 then fLk_compact_29 (d + 61) (nI n) (nI k) (-1) s1 else cG (fFl_nextRowsOf (d + 60) (nI n) (nI k + 1) s1) (kI fun v4 s3 => fLk_compact_29 (d + 61) (nI n) (nI k) v4 s3))) = some r → fLk_compact_9 (d + 61) (nI n) (nI k) s = some r := fun r hr => by
      refine eLk_compact_9 (d + 60) _ _ _ _ ?_
      rw [hfi.1, if_neg (show ¬ nI S.fs.length ≤ nI k by rw [nI_leE (by omega) (by omega)]; omega)]
      exact hr
    by_cases hy : yIs (S.fs.getD k yF0) n
    · have hnx := Fl_nx hfi hL.1 (d + 59) (x := n) (j := k + 1) hn (by omega)
      have go2 : ∀ r, fLk_compact_29 (d + 61) (nI n) (nI k) (zI (yNx S.fs n (k + 1))) s = some r → fLk_compact_9 (d + 61) (nI n) (nI k) s = some r := fun r hr => by
        refine go1 r ?_
        rw [his, cG_I, if_pos hy, if_neg (by decide), nI_add1, show d + 60 = d + 59 + 1 by omega, hnx, cG_I]
        exact hr
      by_cases h0 : yNx S.fs n (k + 1) = 0
      · rw [if_neg (fun e => e.2.1 h0)]
        refine nx s h hx (fun r hr => go2 r (eLk_compact_29 (d + 60) _ _ _ _ _ ?_))
        rw [h0, if_pos zI_0]
        exact hr
      · have h1 := kFr_1 _ _ h0
        have hyb : yIs (S.fs.getD (yNx S.fs n (k + 1) - 1) yF0) n := of_decide_eq_true h1.2.2
        have hb1 : k + 1 < yNx S.fs n (k + 1) := h1.1
        have hb2 : yNx S.fs n (k + 1) ≤ k + 1 + (S.fs.length - (k + 1)) := h1.2.1
        have ez : zI (yNx S.fs n (k + 1)) = nI (yNx S.fs n (k + 1) - 1) := zI_pos (x := yNx S.fs n (k + 1)) (by omega)
        have em : ¬ zI (yNx S.fs n (k + 1)) = -1 := by rw [zI_n1 (by omega)]; exact h0
        generalize hbb : yNx S.fs n (k + 1) - 1 = b at *
        have hbl : b < S.fs.length := by omega
        obtain ⟨s1, p1, p2⟩ := Lk_sf hL hsc hfi hkl hbl hy hyb d
        have y1 : yLI c S s1 := yLI_fr (fun k i _ hn => p2 k i (by
          by_cases e : 41 ≤ k ∧ k < 46
          · exact absurd (show xTr k i by unfold xTr; omega) hn
          · omega)) (Nat.le_refl _) h
        have x1 : xLk s0 s1 := xLk_t hx (fun k i hk => p2 k i (by omega))
        have go3 : ∀ r, (if uB (decide (yPf (yVd S.fs n (S.fs.getD k yF0).2.1) = yPf (yVd S.fs n (S.fs.getD b yF0).2.1))) = 0 then fLk_compact_48 (d + 61) (nI n) (nI k) s1 else cG (fLk_packBoth (d + 60) (nI k) (nI b) s1) (kI fun v4 s3 => if v4 = 0 then fLk_compact_48 (d + 61) (nI n) (nI k) s3 else cG (fLk_replaceBoth (d + 60) (nI k) (nI b) s3) (kI fun v6 s5 => rI v6 s5))) = some r → fLk_compact_9 (d + 61) (nI n) (nI k) s = some r := fun r hr => by
          refine go2 r (eLk_compact_29 (d + 60) _ _ _ _ _ ?_)
          rw [if_neg em, ez, p1, cG_I]
          exact hr
        by_cases hpf : yPf (yVd S.fs n (S.fs.getD k yF0).2.1) = yPf (yVd S.fs n (S.fs.getD b yF0).2.1)
        · rw [decide_eq_true hpf, if_neg (show ¬ uB true = 0 by decide)] at go3
          have hfi1 := y1.2.2.2.2.1
          rw [yUp_f hd0] at hfi1
          obtain ⟨s2, r1, r2, r3⟩ := Lk_pb hL y1.2.2.2.2.2.2.1 hfi1 (yLC_V (yLC_of y1)) hkl hbl hy.2 hyb.2 (d + 52)
          rw [show d + 52 + 8 = d + 60 by omega] at r1
          have y2 : yLI c S s2 := yLI_fr (fun k i _ hn => r2 k i (fun e => hn (by unfold xTr; omega)) (fun e => hn (by unfold xTr; omega)) (fun e => hn (by unfold xTr; omega))) (Nat.le_refl _) y1
          have x2 : xLk s0 s2 := xLk_t x1 (fun k i hk => r2 k i (by omega) (by omega) (by omega))
          rw [r1, cG_I] at go3
          by_cases hwj : yJw S.fs k b ≤ 4096
          · rw [decide_eq_true hwj, if_neg (show ¬ uB true = 0 by decide)] at go3
            rw [if_pos ⟨hy, h0, hpf, hwj⟩]
            obtain ⟨s3, t1, t2, t3⟩ := Lk_rb hw hd0 y2 hc (show k < b by omega) hbl hy hyb ⟨hpf, hwj⟩ (r3 hwj) (d + 46)
            rw [show d + 46 + 14 = d + 60 by omega] at t1
            refine ⟨s3, go3 _ ?_, t2, xLk_t x2 t3⟩
            rw [t1, cG_I]
            rfl
          · rw [if_neg (fun e => hwj e.2.2.2)]
            rw [decide_eq_false hwj, if_pos (show uB false = 0 by decide)] at go3
            exact nx s2 y2 x2 go3
        · rw [if_neg (fun e => hpf e.2.2.1)]
          rw [decide_eq_false hpf, if_pos (show uB false = 0 by decide)] at go3
          exact nx s1 y1 x1 go3
    · rw [if_neg (fun e => hy e.1)]
      refine nx s h hx (fun r hr => go1 r ?_)
      rw [his, cG_I, if_neg hy, if_pos (by decide)]
      refine eLk_compact_29 (d + 60) _ _ _ _ _ ?_
      rw [if_pos rfl]
      exact hr
theorem yJr_1 {p : Option (Nat × Nat)} : (yJr S p).1 = 0 := by
  cases p <;> rfl
theorem L_compact (hw : yWf S) (hc : c ≤ 100000) (h : yLI c S s) (d : Nat) {E : Nat → Nat} (hE : E 1 = 2) (x : Int32) : yLr c s E (fLk_compact (d + 61) x s) (y_compact x S) := by
  by_cases hx : yNo x 3
  · have er : y_compact x S = (1, 0, S) := if_pos hx
    rw [er]
    refine yLr_k (by omega) (eLk_compact (d + 60) _ _ _ ?_)
    rw [Lk_ns, if_pos hx, hE]
    rfl
  · by_cases hd : S.dn = true
    · have er : y_compact x S = (0, -33, S) := by unfold y_compact; rw [if_neg hx, if_pos hd]
      rw [er]
      refine yLr_0 ⟨s, eLk_compact (d + 60) _ _ _ ?_, yLI_c (by omega) h, xLk_r⟩
      rw [Lk_ns, if_neg hx, cG_V, h.1.2, if_neg (by rw [hd]; decide)]
      rfl
    · have hd0 : S.dn = false := by simpa using hd
      obtain ⟨n, n1, rfl⟩ := yNo_n (by omega) hx
      have er : y_compact (nI n) S = yJr S (yCk S.fs n S.fs.length 0) := by unfold y_compact; rw [if_neg hx, if_neg hd, nI_ti2 (by omega)]
      rw [er]
      obtain ⟨s', z1, z2, z3⟩ := Lk_c9 (n := n) hw hd0 hc (s0 := s) (by omega) d S.fs.length 0 (by omega) s h xLk_r
      unfold yLr
      rw [if_pos yJr_1]
      refine ⟨s', eLk_compact (d + 60) _ _ _ ?_, z2, z3⟩
      rw [Lk_ns, if_neg hx, cG_V, h.1.2, if_pos (by rw [hd0]; rfl)]
      exact z1
end
