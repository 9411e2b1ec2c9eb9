section
variable {c : Nat} {S : yS} {s : aT}
theorem yRr_31 {S1 : yS} {v : Nat} : yRr (31, S1) v = (0, nEg 31, S1) := rfl
theorem yVc_16 {L : List yFi} (hL : yLw L) (n : Nat) : yVc L n L.length ≤ 16 := by
  by_cases h0 : yVc L n L.length = 0
  · omega
  · have hvf : yVf L n (yVc L n L.length - 1) ≠ 0 := (yVf_iff hL).1.mpr (by omega)
    have := (yVa_of hL hvf).2
    omega
/-- register, when the text was read -/
theorem Lk_rgk (hw : yWf S) (hc : c ≤ 100000) (h : yLI c S s) (hd0 : S.dn = false) (d : Nat) {n : Nat} (hn : n < 4) {p : jP} {q : kP} {y : Nat} (hk : kTx (yB S.tp) S.tp.length = .ok (p, q, y)) : ∃ s1, fLk_readTape (d + 90) s = rI (nI (lo (yB0 S.fs S.fs.length) (yX (S.tp.take p.1)))) s1 ∧ lo (yB0 S.fs S.fs.length) (yX (S.tp.take p.1)) < 2147483647 ∧ ∃ w t, fLk_keepVersion (d + 90) (nI n) (nI (lo (yB0 S.fs S.fs.length) (yX (S.tp.take p.1)))) s1 = rI w t ∧ ∃ s2 : aT, ∃ r : Nat × Int32 × yS, fLk_register_22 (d + 91) w t = rI r.2.1 s2 ∧ yLI (c + 1) r.2.2 s2 ∧ xLk s s2 ∧ r = (if ∀ v, v < yVc S.fs n S.fs.length → yFv S.fs n (S.tp.take p.1) v = true then (if 16 ≤ yVc S.fs n S.fs.length then (0, -31, (yTr S).2) else yRr (ySt (yTr S).2 n (yVc S.fs n S.fs.length) p.1 0 (S.tp.take p.1)) (yVc S.fs n S.fs.length)) else (0, -30, (yTr S).2)) := by
  have hL := hw.2.2.2.2
  have hsc := h.2.2.2.2.2.1
  obtain ⟨s1, x1, x2, x3, x4, x5, x6⟩ := Lk_rt hw h d
  rw [yUp_f hd0] at hsc x2 x6
  rw [hk] at x6
  obtain ⟨y1, y2, y3, y4, y5, y6⟩ := x6
  obtain ⟨v1, v2, v3, v4⟩ := yVk_tp hw.1.1 hw.1.2 hk
  have eQ : kVe p.2.2.2.1 p.2.2.2.2 q = yQ (S.tp.take p.1) := by unfold yQ yT yN; rw [v2]
  have eX : y = yX (S.tp.take p.1) := by unfold yX; rw [v2]
  rw [eQ] at y3 y4 y5 y6
  rw [eX] at y1
  have hroom := yB0_room hL (Nat.le_refl S.fs.length)
  have hlen := hw.1.2
  have hvr := yVk_r v1
  have hCl : (S.tp.take p.1).length ≤ 4096 := by omega
  have hx2 : ∀ t : aT, (∀ k i, 22 ≤ k → k ≤ 36 → gI t k i = gI s1 k i) → ∀ k i, 22 ≤ k → k ≤ 36 → ¬ xRg (yB0 S.fs S.fs.length) (yP0 S.fs S.fs.length) (yQ0 S.fs S.fs.length) k i → gI t k i = gI s k i := fun t ht k i a b e => by
    rw [ht k i a b]
    refine x2 k i (by omega) (fun e2 => ?_)
    unfold xRt at e2
    rcases e2 with e2 | e2
    · exact e e2
    · omega
  have o1 : ∀ k i, k < 67 → (k = 0 ∧ i = 16 ∨ k = 1 ∨ k = 2 ∨ k = 5 ∨ k = 6 ∨ k = 49 ∧ i = 4 ∨ k = 50 ∨ 56 ≤ k ∧ k ≤ 63) → gI s1 k i = gI s k i := fun k i a b => x2 k i a (fun e => by unfold xRt xRg at e; omega)
  have lc1 : yLC c (yTr S).2 s1 := by
    rw [yTr_e]
    have hb := h.2.1
    exact yLC_ch (fun k i hk => o1 k i (by omega) (by omega)) (lBy_fr (fun k i hk => o1 k i (by omega) (by omega)) hb.1) x3 (lBy_fr (fun k i hk => o1 k i (by omega) (by omega)) hb.2.2) x4 (yLC_of h)
  have lm1 : lMb (20 * c) s1 := lMb_fr (o1 49 4 (by omega) (by omega)) (fun i _ => o1 50 i (by omega) (by omega)) h.2.2.2.2.2.2.2
  obtain ⟨yd, yp, yf, yt, yo⟩ := yTr_dn (S := S)
  have hup : yUp (yTr S).2 = S.fs := by rw [yUp_f (by rw [yd]; exact hd0), yf]
  have hb128 : yB0 S.fs S.fs.length < 100000 := by omega
  have hvs : lVs S.fs s1 := fun i hi h0 => by
    have a1 := (lSc_vs (s' := s1) hL hsc (hx2 s1 (fun _ _ _ _ => rfl)) (P := yQ0 S.fs S.fs.length + (yQ (S.tp.take p.1)).1 6) ⟨y6, by omega, by omega⟩).2 i hi h0
    have o35 : ∀ k i, 34 ≤ k → k ≤ 36 → gI s1 k i = gI s k i := fun k i a b => x2 k i (by omega) (fun e => by unfold xRt xRg at e; omega)
    rw [o35 35 _ (by omega) (by omega), o35 36 _ (by omega) (by omega)]
    obtain ⟨b1, b2, b3⟩ := hsc.2.2.2 i hi h0
    exact ⟨b1, b2, a1⟩
  have h11 : gI s1 22 11 = nI (yB0 S.fs S.fs.length) := by rw [x2 22 11 (by omega) (fun e => by unfold xRt xRg at e; omega)]; exact hsc.1.1.1
  have h34 : gI s1 34 n = nI (yVc S.fs n S.fs.length) := by rw [x2 34 n (by omega) (fun e => by unfold xRt xRg at e; omega)]; exact hsc.2.2.1 n (by omega)
  have hVc := yVc_le (L := S.fs) n S.fs.length
  have h40 := hL.1.1
  have hVc16 := yVc_16 hL n
  have hlp := Lk_kv8 (s1 := s1) hL hvs (n := n) v1 (b := yB0 S.fs S.fs.length) ⟨hroom.1, hb128⟩ y3 h11 (B := 20 * c) (by omega) (d + 67) (yVc S.fs n S.fs.length) 0 s1 (by omega) (fun _ _ _ => rfl) lm1
  rw [show d + 67 + 23 = d + 90 by omega] at hlp
  have hlo : lo (yB0 S.fs S.fs.length) (yX (S.tp.take p.1)) < 2147483647 := by
    unfold lo
    split <;> omega
  refine ⟨s1, y1, hlo, ?_⟩
  have go1 : ∀ r, fLk_keepVersion_8 (d + 90) (nI n) (nI (lo (yB0 S.fs S.fs.length) (yX (S.tp.take p.1)))) (nI (yVc S.fs n S.fs.length)) (nI 0) s1 = some r → fLk_keepVersion (d + 90) (nI n) (nI (lo (yB0 S.fs S.fs.length) (yX (S.tp.take p.1)))) s1 = some r := fun r hr => by
    refine eLk_keepVersion (d + 89) _ _ _ _ ?_
    rw [ldI_n (by omega) (by omega), h34]
    exact hr
  by_cases hall : ∀ v, v < yVc S.fs n S.fs.length → yFv S.fs n (S.tp.take p.1) v = true
  · rw [if_pos hall]
    rw [if_pos (fun v a _ => hall v a)] at hlp
    obtain ⟨t, t1, t2, t3⟩ := hlp
    have ltc : yLC c (yTr S).2 t := yLC_fr (fun k i hk => t1 k i (by omega)) lc1
    have ltm : lMb (20 * c + 16) t := by obtain ⟨u1, u2, u3⟩ := t2; exact ⟨u1, by omega, u3⟩
    have ltx : xLk s t := fun k i hk => by rw [t1 k i (by omega)]; exact x1 k i hk
    have lht := hx2 t (fun k i a b => t1 k i (by omega))
    by_cases h16 : 16 ≤ yVc S.fs n S.fs.length
    · rw [if_pos h16]
      have ek : fLk_keepVersion_8 (d + 90) (nI n) (nI (lo (yB0 S.fs S.fs.length) (yX (S.tp.take p.1)))) (nI (yVc S.fs n S.fs.length)) (nI (yVc S.fs n S.fs.length)) t = rI (nEg 31) t := by
        refine eLk_keepVersion_8 (d + 89) _ _ _ _ _ _ ?_
        rw [if_pos (show nI (yVc S.fs n S.fs.length) ≤ nI (yVc S.fs n S.fs.length) by rw [nI_leE (by omega) (by omega)]; omega), if_neg (show ¬ nI (yVc S.fs n S.fs.length) < 16 by rw [show (16 : Int32) = nI 16 from rfl, nI_ltE (by omega) (by omega)]; omega)]
        rfl
      obtain ⟨s2, q1, q2, q3⟩ := Lk_rdr hL hsc hup lht (yLC_c (show c ≤ c + 1 by omega) ltc) ltm ltx (k := 31) (by omega) (by omega) (d + 90)
      exact ⟨_, t, go1 _ (t3 _ ek), s2, (0, nEg 31, (yTr S).2), q1, q2, q3, rfl⟩
    · rw [if_neg h16]
      have hst := Lk_kst hL hsc (S1 := (yTr S).2) (by rw [yd]; exact hd0) (by rw [yp]; exact hw.2.2.2.1) yf lht hc ltc ltm ltx v1 (fun i hi => by
        rw [t1 2 _ (by omega), o1 2 _ (by omega) (by omega), h.2.1.1.2.1 i (by omega), gD_tk (by omega)]) (by rw [t1 13 9 (by omega), y2, v4]) (lV_fr (fun k i a b => t1 k i (by omega)) y3) (by rw [t1 22 14 (by omega)]; exact y4) (by rw [t1 22 15 (by omega)]; exact y5) (by rw [t1 32 1 (by omega)]; exact y6) hn (by omega) (d + 70)
      rw [show d + 70 + 20 = d + 90 by omega, v4] at hst
      obtain ⟨w, t', k1, k2, k3⟩ := hst
      refine ⟨w, t', go1 _ (t3 _ k1), ?_⟩
      rcases k3 with ⟨r1, r2, r3, r4, r5⟩ | ⟨r1, r2, r3⟩ | ⟨r1, r2, r3⟩
      · obtain ⟨s2, q1, q2, q3⟩ := Lk_rdr hL hsc hup r3 r4 r5 k2 (k := 31) (by omega) (by omega) (d + 90)
        refine ⟨s2, (0, nEg 31, (yTr S).2), by rw [r2]; exact q1, q2, q3, ?_⟩
        rw [r1, yRr_31]
      · refine ⟨pI t' 1 1 0, (0, nEg 32, (ySt (yTr S).2 n (yVc S.fs n S.fs.length) p.1 0 (S.tp.take p.1)).2.stp []), eLk_register_22 (d + 90) _ _ _ ?_, yLI_e r3, fun k i hk => by rw [gI_pI, if_neg (by omega)]; exact k2 k i hk, ?_⟩
        · rw [r2, if_neg (by decide), if_neg (fun e => e rfl), wI_eq]
          rfl
        · unfold yRr
          rw [r1, if_neg (by omega), if_neg (by omega)]
      · refine ⟨pI t' 1 1 0, (0, nI (yVc S.fs n S.fs.length), (ySt (yTr S).2 n (yVc S.fs n S.fs.length) p.1 0 (S.tp.take p.1)).2.stp []), eLk_register_22 (d + 90) _ _ _ ?_, yLI_e r3, fun k i hk => by rw [gI_pI, if_neg (by omega)]; exact k2 k i hk, ?_⟩
        · rw [r2, if_pos (show (0 : Int32) ≤ nI (yVc S.fs n S.fs.length) by rw [show (0 : Int32) = nI 0 from rfl, nI_leE (by omega) (by omega)]; omega), wI_eq]
          rfl
        · unfold yRr
          rw [r1, if_neg (by omega), if_pos rfl]
  · rw [if_neg hall]
    rw [if_neg (fun e => hall (fun v a => e v a (Nat.zero_le _)))] at hlp
    obtain ⟨t, t1, t2, t3⟩ := hlp
    obtain ⟨s2, q1, q2, q3⟩ := Lk_rdr hL hsc hup (hx2 t (fun k i a b => t1 k i (by omega))) (yLC_c (show c ≤ c + 1 by omega) (yLC_fr (fun k i hk => t1 k i (by omega)) lc1)) (by obtain ⟨u1, u2, u3⟩ := t2; exact ⟨u1, by omega, u3⟩) (fun k i hk => by rw [t1 k i (by omega)]; exact x1 k i hk) (k := 30) (by omega) (by omega) (d + 90)
    exact ⟨_, t, go1 _ t3, s2, (0, nEg 30, (yTr S).2), q1, q2, q3, rfl⟩
theorem L_register (hw : yWf S) (hc : c ≤ 100000) (h : yLI c S s) (d : Nat) {E : Nat → Nat} (hE : E 1 = 2) (x : Int32) : yLr c s E (fLk_register (d + 91) x s) (y_register x S) := by
  have hL := hw.2.2.2.2
  by_cases hx : yNo x 3
  · have er : y_register x S = (1, 0, S) := if_pos hx
    rw [er]
    refine yLr_k (by omega) (eLk_register (d + 90) _ _ _ ?_)
    rw [Lk_ns, if_pos hx, hE]
    rfl
  · by_cases hd : S.dn = true
    · have er : y_register x S = (0, -33, S) := by unfold y_register; rw [if_neg hx, if_pos hd]
      rw [er]
      refine yLr_0 ⟨s, eLk_register (d + 90) _ _ _ ?_, yLI_c (by omega) h, xLk_r⟩
      rw [Lk_ns, if_neg hx, cG_V, h.1.2, if_neg (by rw [hd]; decide)]
      rfl
    · have hd0 : S.dn = false := by simpa using hd
      obtain ⟨n, n1, rfl⟩ := yNo_n (by omega) hx
      cases hk : kTx (yB S.tp) S.tp.length with
      | error e =>
        obtain ⟨k, e⟩ := e
        have hsc := h.2.2.2.2.2.1
        obtain ⟨s1, x1, x2, x3, x4, x5, x6⟩ := Lk_rt hw h d
        rw [yUp_f hd0] at hsc x2 x6
        rw [hk] at x6
        have x6 : fLk_readTape (d + 90) s = rI (-1) s1 := x6
        have hkk := kTx_30 hk
        have er : y_register (nI n) S = (0, nEg k, (yTr S).2) := by unfold y_register; rw [if_neg hx, if_neg hd, hk]
        rw [er]
        have et : (yTr S).1 = k := by unfold yTr; rw [hk]
        obtain ⟨yd, yp, yf, yt, yo⟩ := yTr_dn (S := S)
        have o1 : ∀ k i, k < 67 → (k = 0 ∧ i = 16 ∨ k = 1 ∨ k = 2 ∨ k = 5 ∨ k = 6 ∨ k = 49 ∧ i = 4 ∨ k = 50 ∨ 56 ≤ k ∧ k ≤ 63) → gI s1 k i = gI s k i := fun k i a b => x2 k i a (fun e => by unfold xRt xRg at e; omega)
        have lc1 : yLC c (yTr S).2 s1 := by
          rw [yTr_e]
          have hb := h.2.1
          exact yLC_ch (fun k i hk => o1 k i (by omega) (by omega)) (lBy_fr (fun k i hk => o1 k i (by omega) (by omega)) hb.1) x3 (lBy_fr (fun k i hk => o1 k i (by omega) (by omega)) hb.2.2) x4 (yLC_of h)
        have lm1 : lMb (20 * c) s1 := lMb_fr (o1 49 4 (by omega) (by omega)) (fun i _ => o1 50 i (by omega) (by omega)) h.2.2.2.2.2.2.2
        obtain ⟨s2, q1, q2, q3⟩ := Lk_rdr hL hsc (S1 := (yTr S).2) (by rw [yUp_f (by rw [yd]; exact hd0), yf]) (fun k i a b e => x2 k i (by omega) (fun e2 => by
          unfold xRt at e2
          rcases e2 with e2 | e2
          · exact e e2
          · omega)) (yLC_c (show c ≤ c + 1 by omega) lc1) (by obtain ⟨u1, u2, u3⟩ := lm1; exact ⟨u1, by omega, u3⟩) x1 hkk.1 (by omega) (d + 90)
        refine yLr_0 ⟨s2, eLk_register (d + 90) _ _ _ ?_, q2, q3⟩
        rw [Lk_ns, if_neg hx, cG_V, h.1.2, if_pos (by rw [hd0]; rfl), x6, cG_I, if_neg (fun e => e rfl), x5, et]
        exact q1
      | ok y =>
        obtain ⟨p, q, y⟩ := y
        obtain ⟨s1, y1, y2, w, t, k1, s2, r, q1, q2, q3, q4⟩ := Lk_rgk hw hc h hd0 d (n := n) (by omega) hk
        have er : y_register (nI n) S = r := by
          unfold y_register
          rw [if_neg hx, if_neg hd, hk, q4]
          dsimp only
          rw [nI_ti2 (by omega)]
        have r0 : r.1 = 0 := by
          rw [q4]
          split
          · split
            · rfl
            · unfold yRr
              split <;> rfl
          · rfl
        rw [er]
        obtain ⟨ra, rb, rc⟩ := r
        have r0 : ra = 0 := r0
        subst r0
        refine yLr_0 ⟨s2, eLk_register (d + 90) _ _ _ ?_, q2, q3⟩
        rw [Lk_ns, if_neg hx, cG_V, h.1.2, if_pos (by rw [hd0]; rfl), y1, cG_I, if_pos (nI_nm y2), k1, cG_I]
        exact q1
end
