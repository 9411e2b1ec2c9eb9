/-! compact: the reference, the whole -/
section
variable {S : yS} {s s0 : aT} {n a b : Nat}
theorem Mo_jn (hw : yWf S) (h : yMI S s) (h0 : gI s 67 0 = nI 0) (hab : a < b) (hbl : b < S.fs.length) (ha : yIs (S.fs.getD a yF0) n) (hb : yIs (S.fs.getD b yF0) n) (hp : yPok S.fs n a b) (d : Nat) : ∃ s', fMo_join (d + 3) (nI a) (nI b) (nI ((S.fs.getD a yF0).2.2.2.2.2.length + (S.fs.getD b yF0).2.2.2.2.2.length)) (nI (yJw S.fs a b)) s = rI (if (yJn S a b).1 = 0 then 1 else nEg (yJn S a b).1) s' ∧ gI s' 67 0 = nI 0 ∧ yMI (yJn S a b).2 s' ∧ xMo s s' := by
  have hL := hw.2.2.2.2
  have h40 := hL.1.1
  have hal : a < S.fs.length := by omega
  have hPl : yJw S.fs a b ≤ 4096 := hp.2
  have hnb := yBk_16 hPl
  obtain ⟨a1, a2, a3, a4⟩ := yRow hL hal ha
  obtain ⟨b1, b2, b3, b4⟩ := yRow hL hbl hb
  have hall := h
  obtain ⟨⟨p1, p2⟩, ⟨q1, q2⟩, ⟨d1, d2⟩, ⟨e1, e2⟩, f1, g1, i1⟩ := h
  obtain ⟨m1, m2, m3, m4, m5, m6⟩ := g1.2 a hal
  obtain ⟨n1, n2, n3, n4, n5, n6⟩ := g1.2 b hbl
  obtain ⟨u1, u2, u3, u4, u5⟩ := hL.1.2 a hal
  obtain ⟨v1, v2, v3, v4, v5⟩ := hL.1.2 b hbl
  have hda := (yLw_dl hL hal).1
  have hdb := (yLw_dl hL hbl).1
  have hna := yBk_n (S.fs.getD a yF0).2.2.2.1
  have hnb2 := yBk_n (S.fs.getD b yF0).2.2.2.1
  have hlC : (S.fs.getD a yF0).2.2.2.2.2.length + (S.fs.getD b yF0).2.2.2.2.2.length ≤ 4096 := by
    have := hp.2
    unfold yWa at this
    omega
  have hlen : ((S.fs.getD a yF0).2.2.2.2.2 ++ (S.fs.getD b yF0).2.2.2.2.2).length = (S.fs.getD a yF0).2.2.2.2.2.length + (S.fs.getD b yF0).2.2.2.2.2.length := List.length_append
  have hbC : kBt ((S.fs.getD a yF0).2.2.2.2.2 ++ (S.fs.getD b yF0).2.2.2.2.2) := kBt_a a2 b2
  have hCw : ((S.fs.getD a yF0).2.2.2.2.2 ++ (S.fs.getD b yF0).2.2.2.2.2).length ≤ yJw S.fs a b := by
    rw [hlen]
    unfold yJw yWa
    omega
  have hj := Mo_j2 (s := s) (d + 2) (x4 := nI (yJw S.fs a b)) (a := a) (b := b) (ba := (S.fs.getD a yF0).2.2.1) (bb := (S.fs.getD b yF0).2.2.1) a2 b2 (by omega) (by omega) hlC m6 m3 n3 (by omega) (by omega) (i1.1 a hal) (i1.1 b hbl) ((S.fs.getD a yF0).2.2.2.2.2.length + (S.fs.getD b yF0).2.2.2.2.2.length) 0 (by omega)
  rw [oPx_0] at hj
  -- the state in which it is written
  have t147 : ∀ i, i < ((S.fs.getD a yF0).2.2.2.2.2 ++ (S.fs.getD b yF0).2.2.2.2.2).length → gI (oPx 147 ((S.fs.getD a yF0).2.2.2.2.2 ++ (S.fs.getD b yF0).2.2.2.2.2) ((S.fs.getD a yF0).2.2.2.2.2.length + (S.fs.getD b yF0).2.2.2.2.2.length) s) 147 i = mI (((S.fs.getD a yF0).2.2.2.2.2 ++ (S.fs.getD b yF0).2.2.2.2.2).getD i 0) := fun i hi => by rw [oPx_I, if_pos ⟨rfl, by omega⟩]
  have to : ∀ k i, k ≠ 147 → gI (oPx 147 ((S.fs.getD a yF0).2.2.2.2.2 ++ (S.fs.getD b yF0).2.2.2.2.2) ((S.fs.getD a yF0).2.2.2.2.2.length + (S.fs.getD b yF0).2.2.2.2.2.length) s) k i = gI s k i := fun k i hk => oPx_o hk
  rw [← hlen] at hj
  rw [← hlen] at t147 to
  rw [← hlen]
  have frz : zI (S.fs.getD a yF0).2.2.2.2.1 + zI (S.fs.getD b yF0).2.2.2.2.1 = zI (yJf S.fs a b).2.2.2.2.1 := by
    show _ = zI (((S.fs.getD a yF0).2.2.2.2.1 - 1) + ((S.fs.getD b yF0).2.2.2.2.1 - 1) + 1)
    rw [zI_S, zI_pos (x := (S.fs.getD a yF0).2.2.2.2.1) (Nat.pos_of_ne_zero ha.2), zI_pos (x := (S.fs.getD b yF0).2.2.2.2.1) (Nat.pos_of_ne_zero hb.2), nI_addE]
  have efc : (yJf S.fs a b).2.2.2.2.2 = (S.fs.getD a yF0).2.2.2.2.2 ++ (S.fs.getD b yF0).2.2.2.2.2 := rfl
  rw [← efc] at hj t147 to hbC hCw ⊢
  have fx : (S.fs.getD a yF0).1 = (yJf S.fs a b).1 := rfl
  have fv : (S.fs.getD a yF0).2.1 = (yJf S.fs a b).2.1 := rfl
  have efb : (yJf S.fs a b).2.2.1 = yRm S.fs (yBk (yJw S.fs a b)) - 1 := rfl
  have efw : (yJf S.fs a b).2.2.2.1 = yJw S.fs a b := rfl
  have hall' : yMI S (oPx 147 (yJf S.fs a b).2.2.2.2.2 (yJf S.fs a b).2.2.2.2.2.length s) := yMI_fr (fun k i hk hn => to k i (fun e => hn (by unfold xTm; omega))) hall
  have hx0 : xMk 0 s (oPx 147 (yJf S.fs a b).2.2.2.2.2 (yJf S.fs a b).2.2.2.2.2.length s) := ⟨fun k i hk => to k i (by omega), Nat.le_refl _, rfl⟩
  have h0' : gI (oPx 147 (yJf S.fs a b).2.2.2.2.2 (yJf S.fs a b).2.2.2.2.2.length s) 67 0 = nI 0 := by rw [to 67 0 (by omega)]; exact h0
  clear to p1 p2 q1 q2 d1 d2 e1 e2 f1 g1 i1 hall
  generalize oPx 147 (yJf S.fs a b).2.2.2.2.2 (yJf S.fs a b).2.2.2.2.2.length s = t at *
  have hall := hall'
  obtain ⟨⟨p1, p2⟩, ⟨q1, q2⟩, ⟨d1, d2⟩, ⟨e1, e2⟩, f1, g1, i1⟩ := hall'
  obtain ⟨k1, k2, k3, k4, k5, k6⟩ := g1.2 a hal
  obtain ⟨l1, l2, l3, l4, l5, l6⟩ := g1.2 b hbl
  have go : ∀ r, cG (fMo_write (d + 2) (nI (yJf S.fs a b).1) (nI (yJf S.fs a b).2.1) (nI (yJw S.fs a b)) (zI (yJf S.fs a b).2.2.2.2.1) (nI (yJf S.fs a b).2.2.2.2.2.length) 147 (nI a) 1 t) (kI fun v6 s5 => if 0 ≤ v6 then cG (fMo_takeOut (d + 2) (nI b) s5) (kV fun s7 => rI 1 s7) else rI v6 s5) = some r → fMo_join (d + 3) (nI a) (nI b) (nI (yJf S.fs a b).2.2.2.2.2.length) (nI (yJw S.fs a b)) s = some r := fun r hr => by
    refine eMo_join (d + 2) _ _ _ _ _ _ (hj r (eMo_join_2 (d + 2) _ _ _ _ _ _ _ ?_))
    rw [if_pos (Int32.le_refl _), ldI_n (by omega) (by omega), k1, fx, ldI_n (by omega) (by omega), k2, fv, ldI_n (by omega) (by omega), k5, ldI_n (by omega) (by omega), l5, frz]
    exact hr
  have go2 : ∀ w s5, fMo_write_15 (d + 2) (nI (yJf S.fs a b).1) (nI (yJf S.fs a b).2.1) (nI (yJw S.fs a b)) (zI (yJf S.fs a b).2.2.2.2.1) (nI (yJf S.fs a b).2.2.2.2.2.length) 147 (nI a) 1 (zI (yRm S.fs (yBk (yJw S.fs a b)))) t = rI w s5 → fMo_write (d + 2) (nI (yJf S.fs a b).1) (nI (yJf S.fs a b).2.1) (nI (yJw S.fs a b)) (zI (yJf S.fs a b).2.2.2.2.1) (nI (yJf S.fs a b).2.2.2.2.2.length) 147 (nI a) 1 t = rI w s5 := fun w s5 hr => by
    refine eMo_write (d + 1) _ _ _ _ _ _ _ _ _ _ ?_
    have k11 : fMo_write_11 (d + 1 + 1) (nI (yJf S.fs a b).1) (nI (yJf S.fs a b).2.1) (nI (yJw S.fs a b)) (zI (yJf S.fs a b).2.2.2.2.1) (nI (yJf S.fs a b).2.2.2.2.2.length) 147 (nI a) 1 t = rI w s5 := by
      refine eMo_write_11 (d + 1) _ _ _ _ _ _ _ _ _ _ ?_
      rw [Mo_bk (d + 1) (by omega), cG_I, Mo_rm g1 hL.1 d (by omega), cG_I]
      exact hr
    rw [if_neg (show ¬ (4096 : Int32) < nI (yJw S.fs a b) by rw [show (4096 : Int32) = nI 4096 from rfl, nI_ltE (by omega) (by omega)]; omega)]
    split
    · exact k11
    · rw [if_pos (by decide)]
      exact k11
  by_cases hr0 : yRm S.fs (yBk (yJw S.fs a b)) = 0
  · have er : yJn S a b = (31, S) := if_pos hr0
    rw [er]
    refine ⟨t, go _ ?_, h0', hall, xMo_w hx0⟩
    rw [go2 (-31) t (by
      rw [hr0, zI_0]
      refine eMo_write_15 (d + 1) _ _ _ _ _ _ _ _ _ _ _ ?_
      rw [if_neg (by decide)]
      rfl), cG_I, if_neg (by decide), if_neg (show ¬ 31 = 0 by decide)]
    rfl
  · obtain ⟨hok, hL1⟩ := yJ_ok hL hab hbl ha hb hp hr0
    have hle := yRm_le hr0
    have ez : zI (yRm S.fs (yBk (yJw S.fs a b))) = nI (yJf S.fs a b).2.2.1 := by rw [zI_pos (x := yRm S.fs (yBk (yJw S.fs a b))) (by omega), efb]
    have hbn := yBk_n (yJw S.fs a b)
    have hok2 := hok.2.1
    rw [efw] at hok2
    have hwr := Mo_w15 (s := t) d (x := (yJf S.fs a b).1) (v := (yJf S.fs a b).2.1) (want := yJw S.fs a b) (rw := (yJf S.fs a b).2.2.2.2.1) (b := (yJf S.fs a b).2.2.1) (a := 147) (at' := a) (C := (yJf S.fs a b).2.2.2.2.2) (x8 := 1) (by omega) hbC (by omega) (by show _ ≤ 4200; omega) (by decide) (by omega) t147 hPl (by omega) f1 hw.2.2.2.1
    rw [← ez] at hwr
    have erJ : yJn S a b = if S.pw ≠ 0 ∧ S.pw ≤ yBk (yJw S.fs a b) + 1 then (32, (S.spw 0).sdn true) else (0, (S.spw (S.pw - (yBk (yJw S.fs a b) + 1))).sfs ((S.fs.set a (yJf S.fs a b)).eraseIdx b)) := if_neg hr0
    by_cases hlost : S.pw ≠ 0 ∧ S.pw ≤ yBk (yJw S.fs a b) + 1
    · rw [if_pos hlost] at hwr erJ
      rw [erJ]
      have o : ∀ k i, ¬ (k = 67 ∧ (i = 11 ∨ i = 12)) → gI (pI (pI t 67 12 (-1)) 67 11 1) k i = gI t k i := fun k i hk => by rw [gI_pI, if_neg (by omega), gI_pI, if_neg (by omega)]
      refine ⟨_, go _ ?_, by rw [o 67 0 (by omega)]; exact h0', ⟨⟨by rw [o 67 3 (by omega)]; exact p1, by rw [gI_pI, if_pos ⟨rfl, rfl⟩]; rfl⟩, ⟨by rw [o 67 2 (by omega)]; exact q1, fun i hi => by rw [o 68 i (by omega)]; exact q2 i hi⟩, ⟨by rw [o 67 8 (by omega)]; exact d1, fun i hi => by rw [o 135 i (by omega)]; exact d2 i hi⟩, ⟨by rw [o 67 10 (by omega)]; exact e1, fun i hi => by rw [o 136 i (by omega)]; exact e2 i hi⟩, by rw [gI_pI, if_neg (by omega), gI_pI, if_pos ⟨rfl, rfl⟩]; rfl, mFi_fr (o 67 13 (by omega)) (fun k i h1 h2 => o k i (by omega)) g1, fun i hi j hj => by rw [o 143 _ (by omega)]; exact i1.1 i hi j hj, fun i hi => by rw [o 143 _ (by omega)]; exact i1.2 i hi⟩, xMo_t hx0 ⟨fun k i hk => o k i (by omega), Nat.le_add_right _ _, rfl⟩⟩
      rw [go2 _ _ hwr, cG_I, if_neg (by decide), if_neg (show ¬ 32 = 0 by decide)]
      rfl
    · rw [if_neg hlost] at hwr erJ
      rw [erJ]
      obtain ⟨s1, w1, ⟨w2, w3, w4, w5, w6, w7⟩, w8, w9, w10, w11, w12, w13, w14⟩ := hwr
      rw [if_neg (show ¬ (1 : Int32) = 0 by decide)] at w11
      have hF : mFi (S.fs.set a (yJf S.fs a b)) s1 := by
        refine ⟨by rw [w11, gD_sl]; exact g1.1, fun i hi => ?_⟩
        rw [gD_sl] at hi
        rw [gD_set hal]
        by_cases e : i = a
        · rw [if_pos e, e]
          exact ⟨w2, w3, w4.trans ez, by rw [efw]; exact w5, w6, w7⟩
        · rw [if_neg e, w8 137 i (by omega) (by omega) e, w8 138 i (by omega) (by omega) e, w8 139 i (by omega) (by omega) e, w8 140 i (by omega) (by omega) e, w8 141 i (by omega) (by omega) e, w8 142 i (by omega) (by omega) e]
          exact g1.2 i hi
      have hb2 : b < (S.fs.set a (yJf S.fs a b)).length := by rw [gD_sl]; exact hbl
      obtain ⟨s2, r1, r2, r3⟩ := Mo_to hF hL1.1 (d + 2) (k := b) hb2
      have hD1 : mDf (S.fs.set a (yJf S.fs a b)) s1 := by
        refine mDf_set (fun i hi j hj => ?_) hal (fun j hj => ?_)
        · have hfr := of_decide_eq_true hle.2.2 i hi
          have hpk := (yLw_dl hL hi).1
          have hbn2 := yBk_n (S.fs.getD i yF0).2.2.2.1
          unfold yAw at hfr
          rw [w9, if_neg (by rw [efb]; omega)]
          exact i1.1 i hi j hj
        · rw [w9, if_pos (by omega), show 256 * (yJf S.fs a b).2.2.1 + j - 256 * (yJf S.fs a b).2.2.1 = j by omega]
      have hD2 := mDf_er hD1 hb2
      have o : ∀ k i, (k < 137 ∧ ¬ (k = 67 ∧ 11 ≤ i ∧ i ≤ 13)) ∨ 143 < k → gI s2 k i = gI t k i := fun k i hk => by rw [r1.1 k i (by show ¬ (137 ≤ k ∧ k ≤ 142 ∨ k = 67 ∧ i = 13); omega)]; exact w13 k i (by unfold xWr; omega)
      have o2 : ∀ k i, k = 143 ∨ k = 67 ∧ i ≠ 13 → gI s2 k i = gI s1 k i := fun k i hk => r1.1 k i (by show ¬ (137 ≤ k ∧ k ≤ 142 ∨ k = 67 ∧ i = 13); omega)
      refine ⟨s2, go _ ?_, by rw [o 67 0 (by omega)]; exact h0', ⟨⟨by rw [o 67 3 (by omega)]; exact p1, by rw [o2 67 11 (by omega), w12]; exact p2⟩, ⟨by rw [o 67 2 (by omega)]; exact q1, fun i hi => by rw [o 68 i (by omega)]; exact q2 i hi⟩, ⟨by rw [o 67 8 (by omega)]; exact d1, fun i hi => by rw [o 135 i (by omega)]; exact d2 i hi⟩, ⟨by rw [o 67 10 (by omega)]; exact e1, fun i hi => by rw [o 136 i (by omega)]; exact e2 i hi⟩, by rw [o2 67 12 (by omega)]; exact w10, r2, fun i hi j hj => by rw [o2 143 _ (by omega)]; exact hD2 i hi j hj, fun i hi => ?_⟩, xMo_t hx0 ⟨fun k i hk => o k i (by omega), by rw [r1.2, w14]; exact Nat.le_add_right _ _, by
        show s2.2.1 149 0 = _
        rw [r1.2, w14]
        rfl⟩⟩
      · rw [go2 _ _ w1, cG_I, if_pos (by decide), r3, cG_V, if_pos rfl]
        try rfl
      · rw [o2 143 _ (by omega), w9]
        split
        · exact ⟨_, kBt_gd hbC _, rfl⟩
        · exact i1.2 i hi
theorem Mo_c21 (hw : yWf S) (hn : n < 4) (d : Nat) : ∀ j f l, f + j = S.fs.length → l ≤ f → (l ≠ 0 → yIs (S.fs.getD (l - 1) yF0) n) → ∀ s, yMI S s → gI s 67 0 = nI 0 → xMk 0 s0 s → ∃ s', fMo_compact_21 (d + 61) (nI n) (zI l) (nI f) s = rI (yJr S (yCm S.fs n j f l)).2.1 s' ∧ gI s' 67 0 = nI 0 ∧ yMI (yJr S (yCm S.fs n j f l)).2.2 s' ∧ xMo s0 s' := by
  have hL := hw.2.2.2.2
  have h40 := hL.1.1
  intro j
  induction j with
  | zero =>
    intro f l hf _ _ s h h0 hx
    refine ⟨s, eMo_compact_21 (d + 60) _ _ _ _ _ ?_, h0, h, xMo_w hx⟩
    rw [h.2.2.2.2.2.1.1, if_pos (show nI S.fs.length ≤ nI f by rw [nI_leE (by omega) (by omega)]; omega)]
    rfl
  | succ j ih =>
    intro f l hf hlf hly s h h0 hx
    have hfi := h.2.2.2.2.2.1
    have hfl : f < S.fs.length := by omega
    obtain ⟨a1, a2, a3, a4, a5, a6⟩ := hfi.2 f hfl
    obtain ⟨c1, c2, c3, c4, c5⟩ := hL.1.2 f hfl
    have eo : (nI (S.fs.getD f yF0).1 = nI n) = ((S.fs.getD f yF0).1 = n) := nI_eqE (by omega) (by omega)
    have ezf : (zI (S.fs.getD f yF0).2.2.2.2.1 < 0) = ((S.fs.getD f yF0).2.2.2.2.1 = 0) := zI_lt0 (by omega)
    have em : yCm S.fs n (j + 1) f l = if yIs (S.fs.getD f yF0) n then (if l ≠ 0 ∧ yPok S.fs n (l - 1) f then some (l - 1, f) else yCm S.fs n j (f + 1) (f + 1)) else yCm S.fs n j (f + 1) l := rfl
    rw [em]
    have g84 : ∀ l' s1, l' ≤ f + 1 → (l' ≠ 0 → yIs (S.fs.getD (l' - 1) yF0) n) → yMI S s1 → gI s1 67 0 = nI 0 → xMk 0 s0 s1 → (∀ r, fMo_compact_84 (d + 61) (nI n) (zI l') (nI f) s1 = some r → fMo_compact_21 (d + 61) (nI n) (zI l) (nI f) s = some r) → ∃ s', fMo_compact_21 (d + 61) (nI n) (zI l) (nI f) s = rI (yJr S (yCm S.fs n j (f + 1) l')).2.1 s' ∧ gI s' 67 0 = nI 0 ∧ yMI (yJr S (yCm S.fs n j (f + 1) l')).2.2 s' ∧ xMo s0 s' := fun l' s1 y0 y1 y2 y3 y4 go => by
      obtain ⟨s', z1, z2⟩ := ih (f + 1) l' (by omega) y0 y1 s1 y2 y3 y4
      refine ⟨s', go _ (eMo_compact_84 (d + 60) _ _ _ _ _ ?_), z2⟩
      rw [nI_add1]
      exact z1
    have g82 : ∀ s1 r, fMo_compact_84 (d + 61) (nI n) (zI (f + 1)) (nI f) s1 = some r → fMo_compact_82 (d + 61) (nI n) (nI f) s1 = some r := fun s1 r hr => by
      refine eMo_compact_82 (d + 60) _ _ _ _ ?_
      rw [zI_S] at hr
      exact hr
    by_cases hy : yIs (S.fs.getD f yF0) n
    · rw [if_pos hy]
      have go1 : ∀ r, (if zI l < 0 then fMo_compact_82 (d + 61) (nI n) (nI f) s else ldI 41 s 138 (zI l) (fun v3 => ldI 41 s 138 (nI f) (fun v4 => cG (fMo_areSame (d + 60) (nI n) v3 v4 s) (kI fun v6 s5 => if v6 = 0 then fMo_compact_82 (d + 61) (nI n) (nI f) s5 else ldI 41 s5 142 (zI l) (fun v7 => ldI 41 s5 142 (nI f) (fun v8 => ldI 41 s5 141 (zI l) (fun v9 => ldI 41 s5 141 (nI f) (fun v10 => cG (fMo_wanted (d + 60) (v9 + v10) (v7 + v8) s5) (kI fun v12 s11 => if 4096 < v12 then fMo_compact_82 (d + 61) (nI n) (nI f) s11 else cG (fMo_join (d + 60) (zI l) (nI f) (v7 + v8) v12 s11) (kI fun v14 s13 => rI v14 s13)))))))))) = some r → fMo_compact_21 (d + 61) (nI n) (zI l) (nI f) s = some r := fun r hr => by
        refine eMo_compact_21 (d + 60) _ _ _ _ _ ?_
        rw [hfi.1, if_neg (show ¬ nI S.fs.length ≤ nI f by rw [nI_leE (by omega) (by omega)]; omega), ldI_n (by omega) (by omega), a1, if_neg (fun x => x (by rw [eo]; exact hy.1)), ldI_n (by omega) (by omega), a5, if_neg (by rw [ezf]; exact hy.2)]
        exact hr
      have ezl : (zI l < 0) = (l = 0) := zI_lt0 (by omega)
      by_cases hl0 : l = 0
      · rw [if_neg (fun e => e.1 hl0)]
        refine g84 (f + 1) s (Nat.le_refl _) (fun _ => by rw [Nat.add_sub_cancel]; exact hy) h h0 hx (fun r hr => go1 r ?_)
        rw [if_pos (by rw [ezl]; exact hl0)]
        exact g82 s r hr
      · have hya := hly hl0
        have el : zI l = nI (l - 1) := zI_pos (x := l) (by omega)
        have hal : l - 1 < S.fs.length := by omega
        obtain ⟨b1, b2, b3, b4, b5, b6⟩ := hfi.2 (l - 1) hal
        obtain ⟨e1, e2, e3, e4, e5⟩ := hL.1.2 (l - 1) hal
        have ra := (yRow hL hal hya).1
        have rb := (yRow hL hfl hy).1
        obtain ⟨s1, p1, p2, p3, p4⟩ := Mo_as hw h h0 ra rb d
        have x1 : xMk 0 s0 s1 := xMo_t hx p4
        have hfi1 := p2.2.2.2.2.2.1
        have go2 : ∀ r, (if uB (decide (yPf (yVd S.fs n (S.fs.getD (l - 1) yF0).2.1) = yPf (yVd S.fs n (S.fs.getD f yF0).2.1))) = 0 then fMo_compact_82 (d + 61) (nI n) (nI f) s1 else cG (fMo_wanted (d + 60) (nI (((S.fs.getD (l - 1) yF0).2.2.2.2.1 - 1) + ((S.fs.getD f yF0).2.2.2.2.1 - 1))) (nI ((S.fs.getD (l - 1) yF0).2.2.2.2.2.length + (S.fs.getD f yF0).2.2.2.2.2.length)) s1) (kI fun v12 s11 => if 4096 < v12 then fMo_compact_82 (d + 61) (nI n) (nI f) s11 else cG (fMo_join (d + 60) (nI (l - 1)) (nI f) (nI ((S.fs.getD (l - 1) yF0).2.2.2.2.2.length + (S.fs.getD f yF0).2.2.2.2.2.length)) v12 s11) (kI fun v14 s13 => rI v14 s13))) = some r → fMo_compact_21 (d + 61) (nI n) (zI l) (nI f) s = some r := fun r hr => by
          obtain ⟨u1, u2, u3, u4, u5, u6⟩ := hfi1.2 (l - 1) hal
          obtain ⟨v1, v2, v3, v4, v5, v6⟩ := hfi1.2 f hfl
          refine go1 r ?_
          rw [if_neg (by rw [ezl]; exact hl0), el, ldI_n (by omega) (by omega), b2, ldI_n (by omega) (by omega), a2, p1, cG_I, ldI_n (by omega) (by omega), u6, ldI_n (by omega) (by omega), v6, ldI_n (by omega) (by omega), u5, ldI_n (by omega) (by omega), v5, zI_pos (x := (S.fs.getD (l - 1) yF0).2.2.2.2.1) (Nat.pos_of_ne_zero hya.2), zI_pos (x := (S.fs.getD f yF0).2.2.2.2.1) (Nat.pos_of_ne_zero hy.2), nI_addE, nI_addE]
          exact hr
        by_cases hpf : yPf (yVd S.fs n (S.fs.getD (l - 1) yF0).2.1) = yPf (yVd S.fs n (S.fs.getD f yF0).2.1)
        · have hwa := Mo_wa (s := s1) (d + 59) (k := ((S.fs.getD (l - 1) yF0).2.2.2.2.1 - 1) + ((S.fs.getD f yF0).2.2.2.2.1 - 1)) (n := (S.fs.getD (l - 1) yF0).2.2.2.2.2.length + (S.fs.getD f yF0).2.2.2.2.2.length) (by omega) (by omega)
          rw [decide_eq_true hpf, if_neg (show ¬ uB true = 0 by decide), hwa, cG_I] at go2
          have hwl : yJw S.fs (l - 1) f < 100000 := by
            have t1 := kVb_10 (Int64.ofNat (((S.fs.getD (l - 1) yF0).2.2.2.2.1 - 1) + ((S.fs.getD f yF0).2.2.2.2.1 - 1)))
            have t2 := kVb_10 (Int64.ofNat ((S.fs.getD (l - 1) yF0).2.2.2.2.2.length + (S.fs.getD f yF0).2.2.2.2.2.length))
            unfold yJw yWa
            omega
          have eJ : yWa (((S.fs.getD (l - 1) yF0).2.2.2.2.1 - 1) + ((S.fs.getD f yF0).2.2.2.2.1 - 1)) ((S.fs.getD (l - 1) yF0).2.2.2.2.2.length + (S.fs.getD f yF0).2.2.2.2.2.length) = yJw S.fs (l - 1) f := rfl
          rw [eJ] at go2
          have e4 : ((4096 : Int32) < nI (yJw S.fs (l - 1) f)) = (4096 < yJw S.fs (l - 1) f) := by rw [show (4096 : Int32) = nI 4096 from rfl, nI_ltE (by omega) (by omega)]
          by_cases hwj : yJw S.fs (l - 1) f ≤ 4096
          · rw [if_neg (by rw [e4]; omega)] at go2
            rw [if_pos ⟨hl0, hpf, hwj⟩]
            obtain ⟨s2, t1, t2, t3, t4⟩ := Mo_jn hw p2 p3 (show l - 1 < f by omega) hfl hya hy ⟨hpf, hwj⟩ (d + 57)
            rw [show d + 57 + 3 = d + 60 by omega] at t1
            refine ⟨s2, go2 _ ?_, t2, t3, xMo_t x1 t4⟩
            rw [t1, cG_I]
            rfl
          · rw [if_pos (by rw [e4]; omega)] at go2
            rw [if_neg (fun e => hwj e.2.2)]
            exact g84 (f + 1) s1 (Nat.le_refl _) (fun _ => by rw [Nat.add_sub_cancel]; exact hy) p2 p3 x1 (fun r hr => go2 r (g82 s1 r hr))
        · rw [decide_eq_false hpf, if_pos (show uB false = 0 by decide)] at go2
          rw [if_neg (fun e => hpf e.2.1)]
          exact g84 (f + 1) s1 (Nat.le_refl _) (fun _ => by rw [Nat.add_sub_cancel]; exact hy) p2 p3 x1 (fun r hr => go2 r (g82 s1 r hr))
    · rw [if_neg hy]
      refine g84 l s (by omega) hly h h0 hx (fun r hr => eMo_compact_21 (d + 60) _ _ _ _ _ ?_)
      rw [hfi.1, if_neg (show ¬ nI S.fs.length ≤ nI f by rw [nI_leE (by omega) (by omega)]; omega), ldI_n (by omega) (by omega), a1]
      by_cases h1 : (S.fs.getD f yF0).1 = n
      · rw [if_neg (fun x => x (by rw [eo]; exact h1)), ldI_n (by omega) (by omega), a5]
        by_cases h2 : (S.fs.getD f yF0).2.2.2.2.1 = 0
        · rw [if_pos (by rw [ezf]; exact h2)]
          exact hr
        · exact absurd ⟨h1, h2⟩ hy
      · rw [if_pos (fun x => h1 (by rw [eo] at x; exact x))]
        exact hr
theorem M_compact (hw : yWf S) (h : yMI S s) (d : Nat) (x : Int32) : yMr s (fMo_compact (d + 61) x s) (y_compact x S) := by
  have hy : ∀ v, yMI S (pI s 67 0 v) := fun v => yMI_0 h
  have i1 : fMo_isSubject (d + 60) x s = rI (uB (decide (¬ yNo x 3))) s := Mo_isS (d + 59)
  by_cases hx : yNo x 3
  · have er : y_compact x S = (1, 0, S) := if_pos hx
    rw [er]
    refine ⟨pI s 67 0 (nI 1), eMo_compact (d + 60) _ _ _ ?_, by rw [gI_pI, if_pos ⟨rfl, rfl⟩], hy _, xMo_0⟩
    rw [i1, cG_I, show decide (¬ yNo x 3) = false from decide_eq_false (fun e => e hx), if_neg (by decide)]
    refine eMo_compact_7 (d + 60) _ _ _ _ ?_
    have e0 : fMo_refused (d + 60) 1 0 s = rI 1 (pI s 67 0 (nI 1)) := Mo_ref (d + 60) (a := true) (b := false)
    rw [e0, cG_I, if_neg (by decide)]
    rfl
  · have e0 : fMo_refused (d + 60) 0 0 s = rI 0 (pI s 67 0 (nI 0)) := Mo_ref (d + 60) (a := false) (b := false)
    have go : ∀ r, (if gI (pI s 67 0 (nI 0)) 67 11 = 0 then fMo_compact_21 (d + 61) x (-1) 0 (pI s 67 0 (nI 0)) else rI (-33) (pI s 67 0 (nI 0))) = some r → fMo_compact (d + 61) x s = some r := fun r hr => by
      refine eMo_compact (d + 60) _ _ _ ?_
      rw [i1, cG_I, show decide (¬ yNo x 3) = true from decide_eq_true hx, if_pos (by decide)]
      refine eMo_compact_7 (d + 60) _ _ _ _ ?_
      rw [e0, cG_I, if_pos rfl]
      exact hr
    by_cases hd : S.dn = true
    · have er : y_compact x S = (0, -33, S) := by unfold y_compact; rw [if_neg hx, if_pos hd]
      rw [er]
      refine ⟨pI s 67 0 (nI 0), go _ ?_, by rw [gI_pI, if_pos ⟨rfl, rfl⟩], hy _, xMo_0⟩
      rw [(hy _).1.2, if_neg (by rw [hd]; decide)]
      rfl
    · have hd0 : S.dn = false := by simpa using hd
      obtain ⟨n, n1, rfl⟩ := yNo_n (by omega) hx
      have er : y_compact (nI n) S = yJr S (yCk S.fs n S.fs.length 0) := by unfold y_compact; rw [if_neg hx, if_neg hd, nI_ti2 (by omega)]
      have ecm := yCm_ck (L := S.fs) (n := n) S.fs.length 0 0 (by omega)
      rw [if_neg (fun e => e.1 rfl)] at ecm
      rw [er, ← ecm]
      obtain ⟨s', z1, z2, z3, z4⟩ := Mo_c21 (s0 := s) hw (n := n) (by omega) d S.fs.length 0 0 (by omega) (Nat.le_refl _) (fun e => absurd rfl e) (pI s 67 0 (nI 0)) (hy _) (by rw [gI_pI, if_pos ⟨rfl, rfl⟩]) xMo_0
      refine ⟨s', go _ ?_, by rw [yJr_1]; exact z2, z3, z4⟩
      rw [(hy _).1.2, if_pos (by rw [hd0]; rfl)]
      exact z1
end
