/-! start: both sides -/
def y_start (S : yS) : Nat × Int32 × yS := if S.dn = true then (0, nI S.fs.length, S.sdn false) else (1, 0, S)
section
variable {c : Nat} {S : yS} {s : aT} {L : List yFi}
theorem gD_tkf {k i : Nat} (h : i < k) : (L.take k).getD i yF0 = L.getD i yF0 := by
  rw [List.getD_eq_getElem?_getD, List.getD_eq_getElem?_getD, List.getElem?_take, if_pos h]
theorem yLw_tk (hL : yLw L) {k : Nat} (hk : k ≤ L.length) : yLw (L.take k) := by
  have hlen : (L.take k).length = k := by rw [List.length_take]; omega
  have hg : ∀ i, i < k → (L.take k).getD i yF0 = L.getD i yF0 := fun i hi => gD_tkf hi
  have h40 := hL.1.1
  refine ⟨⟨by omega, fun i hi => by rw [hg i (by omega)]; exact hL.1.2 i (by omega)⟩, fun i j hi hj hij => by rw [hg i (by omega), hg j (by omega)]; exact hL.2.1 i j (by omega) (by omega) hij, fun i hi hz => ?_, fun i hi hz => ?_⟩
  · rw [hg i (by omega)] at hz ⊢
    obtain ⟨a1, a2, a3⟩ := hL.2.2.1 i (by omega) hz
    exact ⟨a1, a2, by rw [(yAg hg i (by omega)).2.2.2.1]; exact a3⟩
  · rw [hg i (by omega)] at hz ⊢
    obtain ⟨a1, a2, j, j1, j2⟩ := hL.2.2.2 i (by omega) hz
    exact ⟨a1, a2, j, j1, by rw [hg j (by omega)]; exact j2⟩
theorem take_s {k : Nat} (hk : k < L.length) : L.take k ++ [L.getD k yF0] = L.take (k + 1) := by
  rw [List.take_succ, List.getD_eq_getElem?_getD, List.getElem?_eq_getElem hk]
  rfl
/-- what the loop of start may change -/
def xSr (k : Nat) : Prop := 7 ≤ k ∧ k ≤ 40
theorem Lk_rvn (hL : yLw L) (hl : lFi L s) (hdf : lDf L s) {k : Nat} (hk : k < L.length) (h0 : (L.getD k yF0).2.2.2.2.1 = 0) (hsc : lSc (L.take k) s) (d : Nat) : ∃ s', fLk_readVersion (d + 90) (nI k) s = rV s' ∧ lSc (L.take (k + 1)) s' ∧ (∀ k i, ¬ xSr k → gI s' k i = gI s k i) := by
  have hlen : (L.take k).length = k := by rw [List.length_take]; omega
  obtain ⟨a1, a2, a3, a4, a5⟩ := hl.2 k hk
  obtain ⟨b1, b2, b3, b4, b5⟩ := hL.1.2 k hk
  obtain ⟨v1, v2, v3⟩ := hL.2.2.1 k hk h0
  have h40 := hL.1.1
  have hbn := yBk_n (L.getD k yF0).2.2.2.1
  have hpk : yPk (L.getD k yF0) = (L.getD k yF0).2.2.2.2.2 := if_pos h0
  have hLk := yLw_tk hL (k := k) (by omega)
  have hvc : yVc (L.take k) (L.getD k yF0).1 (L.take k).length = yVc L (L.getD k yF0).1 k := by
    rw [hlen]
    exact (yAg (fun i hi => gD_tkf hi) k (Nat.le_refl _)).2.2.2.1 _
  obtain ⟨s1, s2, hp, hr, hm⟩ := Lk_rd hLk hsc (C := (L.getD k yF0).2.2.2.2.2) (a := 57) (fr := 256 * (L.getD k yF0).2.2.1) (.inr rfl) v1.1.2 v1.1.1 (by show _ ≤ 32768; omega) (fun i hi => by have := hdf k hk i (by rw [hpk]; exact hi); rw [hpk] at this; exact this) d
  have e1 : kTx (yB (L.getD k yF0).2.2.2.2.2) (L.getD k yF0).2.2.2.2.2.length = .ok ((yRd (L.getD k yF0).2.2.2.2.2).1, (yRd (L.getD k yF0).2.2.2.2.2).2.1, (yRd (L.getD k yF0).2.2.2.2.2).2.2) := v1.2.1
  rw [e1] at hm
  obtain ⟨m1, m2, m3, m4, m5, m6, m7, m8⟩ := hm
  have hx : ∀ k' i, ¬ xSr k' → gI s2 k' i = gI s k' i := fun k' i hh => by
    unfold xSr at hh
    by_cases h67 : k' < 67
    · exact hr.1 k' i h67 (fun e => by unfold xRg at e; omega)
    · exact hr.2 k' i (by omega)
  obtain ⟨s3, k1, k2, k3⟩ := Sc_keep (s := s2) (f := L.getD k yF0) hLk hsc (fun k' i h1 h2 hn => hr.1 k' i (by omega) hn) m5 m6 m7 m8 h0 (by rw [hvc]; exact v3) b1.1 b1.2 (d + 88)
  rw [take_s hk] at k2
  have hlo : lo (yB0 (L.take k) (L.take k).length) (yRd (L.getD k yF0).2.2.2.2.2).2.2 < 2147483647 := by
    have h6 := yB0_room hLk (Nat.le_refl (L.take k).length)
    have hvr := yVk_r v1
    have : yX (L.getD k yF0).2.2.2.2.2 < (yQ (L.getD k yF0).2.2.2.2.2).1 1 := hvr.2.2.2.2
    have e2 : (yRd (L.getD k yF0).2.2.2.2.2).2.2 = yX (L.getD k yF0).2.2.2.2.2 := rfl
    rw [e2]
    unfold lo
    split <;> omega
  refine ⟨s3, eLk_readVersion (d + 89) _ _ _ ?_, k2, fun k' i hh => by rw [k3 k' i (fun e => hh (by unfold xSr; omega)), hx k' i hh]⟩
  rw [ldI_n (by omega) (by omega), a3, ldI_n (by omega) (by omega), a4, v2, show (256 : Int32) = nI 256 from rfl, nI_mulE, Nat.mul_comm, hp, cG_V, m1, cG_I, if_pos (nI_nm hlo), ldI_n (by omega) (by omega), hx 59 k (by unfold xSr; omega), a1]
  have k1 : fSc_keep (d + 89) (nI (L.getD k yF0).1) (nI (lo (yB0 (L.take k) (L.take k).length) (yRd (L.getD k yF0).2.2.2.2.2).2.2)) s2 = rV s3 := k1
  rw [k1, cG_V]
  rfl
theorem L_start (hw : yWf S) (hc : c ≤ 100000) (h : yLI c S s) (d : Nat) {E : Nat → Nat} (hE : E 1 = 0) : yLr c s E (fLk_start (d + 91) s) (y_start S) := by
  have hL := hw.2.2.2.2
  by_cases hd : S.dn = true
  · have er : y_start S = (0, nI S.fs.length, S.sdn false) := if_pos hd
    rw [er]
    obtain ⟨⟨a1, a2⟩, ⟨b1, b2, b3⟩, d1, ⟨tn, e1, e2, e3⟩, f1, g1, i1, j1⟩ := h
    have hup : yUp S = [] := by unfold yUp; rw [if_pos hd]
    rw [hup] at f1 g1
    obtain ⟨s1, r1, r2, r3, r4⟩ := Fl_rf hL.1 (by omega) e2 (d + 83)
    have o1 : ∀ k i, ¬ (58 ≤ k ∧ k ≤ 63) → gI s1 k i = gI s k i := fun k i hk => r1.1 k i (by show ¬ (59 ≤ k ∧ k ≤ 63 ∨ k = 58 ∧ (i = 5 ∨ i = 6)); omega)
    have h40 := hL.1.1
    have hdf1 : lDf S.fs s1 := fun i hi j hj => by rw [o1 57 _ (by omega)]; exact i1 i hi j hj
    have loop : ∀ m k t, k + m = S.fs.length → lSc (S.fs.take k) t → (∀ k i, ¬ xSr k → gI t k i = gI s1 k i) → ∃ t', fLk_start_15 (d + 91) (nI k) t = rI (nI S.fs.length) (pI t' 0 16 0) ∧ lSc S.fs t' ∧ (∀ k i, ¬ xSr k → gI t' k i = gI s1 k i) := by
      intro m
      induction m with
      | zero =>
        intro k t hk hsc ht
        have ek : k = S.fs.length := by omega
        subst ek
        rw [List.take_length] at hsc
        refine ⟨t, eLk_start_15 (d + 90) _ _ _ ?_, hsc, ht⟩
        have e58 : gI t 58 5 = nI S.fs.length := by rw [ht 58 5 (by unfold xSr; omega)]; exact r2.1
        have e58' : gI (pI t 0 16 0) 58 5 = nI S.fs.length := by rw [gI_pI, if_neg (by omega)]; exact e58
        rw [e58, if_pos (show nI S.fs.length ≤ nI S.fs.length by rw [nI_leE (by omega) (by omega)]; omega)]
        show rI (gI (pI t 0 16 0) 58 5) (pI t 0 16 0) = _
        rw [e58']
        rfl
      | succ m ih =>
        intro k t hk hsc ht
        have hk2 : k < S.fs.length := by omega
        have hl : lFi S.fs t := lFi_fr (fun k i h1 h2 => ht k i (by unfold xSr; omega)) r2
        have hdf : lDf S.fs t := fun i hi j hj => by rw [ht 57 _ (by unfold xSr; omega)]; exact hdf1 i hi j hj
        obtain ⟨c1, c2, c3, c4, c5⟩ := hl.2 k hk2
        obtain ⟨p1, p2, p3, p4, p5⟩ := hL.1.2 k hk2
        have e58 : gI t 58 5 = nI S.fs.length := hl.1
        have go : ∀ r, (if zI (S.fs.getD k yF0).2.2.2.2.1 = -1 then cG (fLk_readVersion (d + 90) (nI k) t) (kV fun s2 => fLk_start_30 (d + 91) (nI k) s2) else fLk_start_30 (d + 91) (nI k) t) = some r → fLk_start_15 (d + 91) (nI k) t = some r := fun r hr => by
          refine eLk_start_15 (d + 90) _ _ _ ?_
          rw [e58, if_neg (show ¬ nI S.fs.length ≤ nI k by rw [nI_leE (by omega) (by omega)]; omega), ldI_n (by omega) (by omega), c5]
          by_cases hz : zI (S.fs.getD k yF0).2.2.2.2.1 = -1
          · rw [if_pos hz] at hr
            rw [if_neg (fun e => e hz)]
            exact hr
          · rw [if_neg hz] at hr
            rw [if_pos hz]
            exact hr
        have nx : ∀ u r, fLk_start_15 (d + 91) (nI (k + 1)) u = some r → fLk_start_30 (d + 91) (nI k) u = some r := fun u r hr => by
          refine eLk_start_30 (d + 90) _ _ _ ?_
          rw [nI_add1]
          exact hr
        by_cases hz : (S.fs.getD k yF0).2.2.2.2.1 = 0
        · obtain ⟨t1, q1, q2, q3⟩ := Lk_rvn hL hl hdf hk2 hz hsc d
          obtain ⟨t', z1, z2, z3⟩ := ih (k + 1) t1 (by omega) q2 (fun k i hh => by rw [q3 k i hh, ht k i hh])
          refine ⟨t', go _ ?_, z2, z3⟩
          rw [if_pos (by rw [hz]; rfl), q1, cG_V]
          exact nx t1 _ z1
        · have hsc' : lSc (S.fs.take (k + 1)) t := by
            rw [← take_s hk2]
            exact lSc_row hsc hz
          obtain ⟨t', z1, z2, z3⟩ := ih (k + 1) t (by omega) hsc' ht
          refine ⟨t', go _ ?_, z2, z3⟩
          rw [if_neg (by rw [zI_n1 (by omega)]; exact hz)]
          exact nx t _ z1
    have hsc0 : lSc (S.fs.take 0) s1 := lSc_fr (fun k i h1 h2 => o1 k i (by omega)) g1
    obtain ⟨t', z1, z2, z3⟩ := loop S.fs.length 0 s1 (by omega) hsc0 (fun _ _ _ => rfl)
    have o2 : ∀ k i, ¬ xSr k → ¬ (k = 0 ∧ i = 16) → gI (pI t' 0 16 0) k i = gI s1 k i := fun k i h1 h2 => by rw [gI_pI, if_neg h2, z3 k i h1]
    have o3 : ∀ k i, ¬ xSr k → ¬ (58 ≤ k ∧ k ≤ 63) → ¬ (k = 0 ∧ i = 16) → gI (pI t' 0 16 0) k i = gI s k i := fun k i h1 h2 h3 => by rw [o2 k i h1 h3, o1 k i h2]
    refine yLr_0 ⟨pI t' 0 16 0, eLk_start (d + 90) _ _ ?_, ⟨⟨by rw [o3 0 15 (by unfold xSr; omega) (by omega) (by omega)]; exact a1, by rw [gI_pI, if_pos ⟨rfl, rfl⟩]; rfl⟩, ⟨lBy_fr (fun k i hk => o3 k i (by unfold xSr; omega) (by omega) (by omega)) b1, lBy_fr (fun k i hk => o3 k i (by unfold xSr; omega) (by omega) (by omega)) b2, lBy_fr (fun k i hk => o3 k i (by unfold xSr; omega) (by omega) (by omega)) b3⟩, by rw [o3 56 1 (by unfold xSr; omega) (by omega) (by omega)]; exact d1, ⟨tn, by omega, lDl_fr (fun i _ => o3 57 i (by unfold xSr; omega) (by omega) (by omega)) e2, fun _ => by rw [o2 58 6 (by unfold xSr; omega) (by omega)]; exact r3⟩, ?_, ?_, fun i hi j hj => by rw [o3 57 _ (by unfold xSr; omega) (by omega) (by omega)]; exact i1 i hi j hj, lMk_fr (o3 49 4 (by unfold xSr; omega) (by omega) (by omega)) (fun i _ => o3 50 i (by unfold xSr; omega) (by omega) (by omega)) (by omega) j1⟩, fun k i hk => o3 k i (by unfold xSr; omega) (by omega) (by omega)⟩
    · rw [a2, if_pos (by rw [hd]; decide), r4, cG_V]
      exact z1
    · rw [yUp_f (S := S.sdn false) rfl]
      exact lFi_fr (fun k i h1 h2 => o2 k i (by unfold xSr; omega) (by omega)) r2
    · rw [yUp_f (S := S.sdn false) rfl]
      exact lSc_fr (fun k i h1 h2 => by rw [gI_pI, if_neg (by omega)]) z2
  · have er : y_start S = (1, 0, S) := if_neg hd
    rw [er]
    have hd0 : S.dn = false := by simpa using hd
    refine yLr_k (by omega) (eLk_start (d + 90) _ _ ?_)
    rw [h.1.2, if_neg (by rw [hd0]; decide), hE]
    rfl
theorem M_start (h : yMI S s) (d : Nat) : yMr s (fMo_start (d + 1) s) (y_start S) := by
  have hy : ∀ v, yMI S (pI s 67 0 v) := fun v => yMI_0 h
  by_cases hd : S.dn = true
  · have er : y_start S = (0, nI S.fs.length, S.sdn false) := if_pos hd
    rw [er]
    have e0 : fMo_refused d 0 0 s = rI 0 (pI s 67 0 (nI 0)) := Mo_ref d (a := false) (b := false)
    obtain ⟨⟨a1, a2⟩, ⟨b1, b2⟩, ⟨d1, d2⟩, ⟨e1, e2⟩, f1, g1, i1⟩ := hy (nI 0)
    have o : ∀ k i, ¬ (k = 67 ∧ i = 11) → gI (pI (pI s 67 0 (nI 0)) 67 11 0) k i = gI (pI s 67 0 (nI 0)) k i := fun k i hk => by rw [gI_pI, if_neg hk]
    refine ⟨pI (pI s 67 0 (nI 0)) 67 11 0, eMo_start d _ _ ?_, by rw [o 67 0 (by omega), gI_pI, if_pos ⟨rfl, rfl⟩], ⟨⟨by rw [o 67 3 (by omega)]; exact a1, by rw [gI_pI, if_pos ⟨rfl, rfl⟩]; rfl⟩, ⟨by rw [o 67 2 (by omega)]; exact b1, fun i hi => by rw [o 68 i (by omega)]; exact b2 i hi⟩, ⟨by rw [o 67 8 (by omega)]; exact d1, fun i hi => by rw [o 135 i (by omega)]; exact d2 i hi⟩, ⟨by rw [o 67 10 (by omega)]; exact e1, fun i hi => by rw [o 136 i (by omega)]; exact e2 i hi⟩, by rw [o 67 12 (by omega)]; exact f1, mFi_fr (o 67 13 (by omega)) (fun k i h1 h2 => o k i (by omega)) g1, fun i hi j hj => by rw [o 143 _ (by omega)]; exact i1.1 i hi j hj, fun i hi => by rw [o 143 _ (by omega)]; exact i1.2 i hi⟩, xMo_t xMo_0 xMo_0⟩
    rw [h.1.2, if_pos (by rw [hd]; decide)]
    refine eMo_start_7 d _ _ _ ?_
    rw [e0, cG_I, if_pos rfl]
    have e13 : gI (pI (pI s 67 0 (nI 0)) 67 11 0) 67 13 = nI S.fs.length := by rw [o 67 13 (by omega)]; exact g1.1
    show rI (gI (pI (pI s 67 0 (nI 0)) 67 11 0) 67 13) (pI (pI s 67 0 (nI 0)) 67 11 0) = _
    rw [e13]
    rfl
  · have er : y_start S = (1, 0, S) := if_neg hd
    rw [er]
    have hd0 : S.dn = false := by simpa using hd
    have e0 : fMo_refused d 1 0 s = rI 1 (pI s 67 0 (nI 1)) := Mo_ref d (a := true) (b := false)
    refine ⟨pI s 67 0 (nI 1), eMo_start d _ _ ?_, by rw [gI_pI, if_pos ⟨rfl, rfl⟩], hy _, xMo_0⟩
    rw [h.1.2, if_neg (by rw [hd0]; decide)]
    refine eMo_start_7 d _ _ _ ?_
    rw [e0, cG_I, if_neg (by decide)]
    rfl
end
