/-! PURE: a file of rows goes -/
/-- where a file was before file k went -/
def yE (k i : Nat) : Nat := if i < k then i else i + 1
section
variable {L : List yFi} {s : aT} {k : Nat}
theorem gD_e {i : Nat} : (L.eraseIdx k).getD i yF0 = L.getD (yE k i) yF0 := by
  rw [gD_er]
  unfold yE
  split <;> rfl
theorem yAg_er (hk : (L.getD k yF0).2.2.2.2.1 ≠ 0) : ∀ m, yB0 (L.eraseIdx k) m = yB0 L (yE k m) ∧ yP0 (L.eraseIdx k) m = yP0 L (yE k m) ∧ yQ0 (L.eraseIdx k) m = yQ0 L (yE k m) ∧ ∀ x, yVc (L.eraseIdx k) x m = yVc L x (yE k m) := by
  have kb : yB0 L (k + 1) = yB0 L k := by
    show yB0 L k + (if (L.getD k yF0).2.2.2.2.1 = 0 then _ else 0) = _
    rw [if_neg hk, Nat.add_zero]
  have kp : yP0 L (k + 1) = yP0 L k := by
    show yP0 L k + (if (L.getD k yF0).2.2.2.2.1 = 0 then _ else 0) = _
    rw [if_neg hk, Nat.add_zero]
  have kq : yQ0 L (k + 1) = yQ0 L k := by
    show yQ0 L k + (if (L.getD k yF0).2.2.2.2.1 = 0 then _ else 0) = _
    rw [if_neg hk, Nat.add_zero]
  have kv : ∀ x, yVc L x (k + 1) = yVc L x k := fun x => by
    show yVc L x k + (if yIv (L.getD k yF0) x then 1 else 0) = _
    rw [if_neg (fun e => hk e.2), Nat.add_zero]
  intro m
  induction m with
  | zero =>
    unfold yE
    by_cases h : 0 < k
    · rw [if_pos h]
      exact ⟨rfl, rfl, rfl, fun _ => rfl⟩
    · have e : k = 0 := by omega
      subst e
      rw [if_neg h]
      exact ⟨kb.symm, kp.symm, kq.symm, fun x => (kv x).symm⟩
  | succ m ih =>
    obtain ⟨i1, i2, i3, i4⟩ := ih
    have s1 : yB0 (L.eraseIdx k) (m + 1) = yB0 L (yE k m + 1) := by
      show yB0 (L.eraseIdx k) m + (if ((L.eraseIdx k).getD m yF0).2.2.2.2.1 = 0 then (yQ ((L.eraseIdx k).getD m yF0).2.2.2.2.2).1 1 - 6 else 0) = _
      rw [i1, gD_e]
      rfl
    have s2 : yP0 (L.eraseIdx k) (m + 1) = yP0 L (yE k m + 1) := by
      show yP0 (L.eraseIdx k) m + (if ((L.eraseIdx k).getD m yF0).2.2.2.2.1 = 0 then (yQ ((L.eraseIdx k).getD m yF0).2.2.2.2.2).1 3 else 0) = _
      rw [i2, gD_e]
      rfl
    have s3 : yQ0 (L.eraseIdx k) (m + 1) = yQ0 L (yE k m + 1) := by
      show yQ0 (L.eraseIdx k) m + (if ((L.eraseIdx k).getD m yF0).2.2.2.2.1 = 0 then (yQ ((L.eraseIdx k).getD m yF0).2.2.2.2.2).1 6 else 0) = _
      rw [i3, gD_e]
      rfl
    have s4 : ∀ x, yVc (L.eraseIdx k) x (m + 1) = yVc L x (yE k m + 1) := fun x => by
      show yVc (L.eraseIdx k) x m + (if yIv ((L.eraseIdx k).getD m yF0) x then 1 else 0) = _
      rw [i4 x, gD_e]
      rfl
    by_cases h : m + 1 = k
    · have e1 : yE k m + 1 = k := by unfold yE; rw [if_pos (by omega)]; exact h
      have e2 : yE k (m + 1) = k + 1 := by unfold yE; rw [if_neg (by omega)]; omega
      rw [e2, kb, kp, kq, s1, s2, s3, e1]
      exact ⟨rfl, rfl, rfl, fun x => by rw [s4 x, e1, kv x]⟩
    · have e1 : yE k m + 1 = yE k (m + 1) := by unfold yE; by_cases h1 : m < k; rw [if_pos h1, if_pos (by omega)]; rw [if_neg h1, if_neg (by omega)]
      rw [s1, s2, s3, e1]
      exact ⟨rfl, rfl, rfl, fun x => by rw [s4 x, e1]⟩
theorem yLw_er (hL : yLw L) (hk : k < L.length) (h0 : (L.getD k yF0).2.2.2.2.1 ≠ 0) : yLw (L.eraseIdx k) := by
  have hlen : (L.eraseIdx k).length = L.length - 1 := List.length_eraseIdx_of_lt hk
  have hE : ∀ i, i < (L.eraseIdx k).length → yE k i < L.length := fun i hi => by unfold yE; split <;> omega
  refine ⟨yLs_er hL.1 hk, fun i j hi hj hij => ?_, fun i hi hz => ?_, fun i hi hz => ?_⟩
  · rw [gD_e, gD_e]
    exact hL.2.1 _ _ (hE i hi) (hE j hj) (by unfold yE; split <;> split <;> omega)
  · rw [gD_e] at hz ⊢
    obtain ⟨a1, a2, a3⟩ := hL.2.2.1 _ (hE i hi) hz
    exact ⟨a1, a2, by rw [(yAg_er h0 i).2.2.2]; exact a3⟩
  · rw [gD_e] at hz ⊢
    obtain ⟨a1, a2, j, j1, j2, j3⟩ := hL.2.2.2 _ (hE i hi) hz
    have hjk : j ≠ k := fun e => h0 (by rw [← e]; exact j2.2)
    have ej : yE k (if j < k then j else j - 1) = j := by
      unfold yE
      by_cases h : j < k
      · rw [if_pos h, if_pos h]
      · rw [if_neg h, if_neg (by omega)]; omega
    refine ⟨a1, a2, if j < k then j else j - 1, ?_, ?_⟩
    · unfold yE at j1
      by_cases h : j < k
      · rw [if_pos h]
        split at j1 <;> omega
      · rw [if_neg h]
        split at j1 <;> omega
    · rw [gD_e, ej]
      exact ⟨j2, j3⟩
theorem lSc_er (h : lSc L s) (hk : k < L.length) (h0 : (L.getD k yF0).2.2.2.2.1 ≠ 0) : lSc (L.eraseIdx k) s := by
  have hlen : (L.eraseIdx k).length = L.length - 1 := List.length_eraseIdx_of_lt hk
  have eN : yE k (L.eraseIdx k).length = L.length := by rw [hlen]; unfold yE; rw [if_neg (by omega)]; omega
  have hE : ∀ i, i < (L.eraseIdx k).length → yE k i < L.length := fun i hi => by unfold yE; split <;> omega
  obtain ⟨b1, b2, b3, b4⟩ := yAg_er h0 (L.eraseIdx k).length
  rw [eN] at b1 b2 b3 b4
  obtain ⟨h1, h2, h3, h4⟩ := h
  refine ⟨by rw [b1, b2, b3]; exact h1, h2, fun x hx => by rw [b4]; exact h3 x hx, fun i hi hz => ?_⟩
  obtain ⟨c1, c2, c3, _⟩ := yAg_er h0 i
  rw [gD_e] at hz ⊢
  rw [c1, c2, c3]
  exact h4 _ (hE i hi) hz
theorem lDf_er (h : lDf L s) (hk : k < L.length) : lDf (L.eraseIdx k) s := fun i hi j hj => by
  have hlen : (L.eraseIdx k).length = L.length - 1 := List.length_eraseIdx_of_lt hk
  rw [gD_e] at hj ⊢
  exact h _ (by unfold yE; split <;> omega) j hj
/-- the reference's data -/
def mDf (L : List yFi) (s : aT) : Prop := ∀ i, i < L.length → ∀ j, j < (L.getD i yF0).2.2.2.2.2.length → gI s 143 (256 * (L.getD i yF0).2.2.1 + j) = mI ((L.getD i yF0).2.2.2.2.2.getD j 0)
theorem mDf_er (h : mDf L s) (hk : k < L.length) : mDf (L.eraseIdx k) s := fun i hi j hj => by
  have hlen : (L.eraseIdx k).length = L.length - 1 := List.length_eraseIdx_of_lt hk
  rw [gD_e] at hj ⊢
  exact h _ (by unfold yE; split <;> omega) j hj
theorem yCl_in {P : List yFi → Prop} {x : Nat} (hP : ∀ L k, k < L.length → (L.getD k yF0).2.2.2.2.1 ≠ 0 → P L → P (L.eraseIdx k)) : ∀ n L, n ≤ L.length → P L → P (yCl x n L)
  | 0, L, _, h => h
  | n + 1, L, hn, h => by
    show P (yCl x n (if yIs (L.getD n yF0) x then L.eraseIdx n else L))
    by_cases hi : yIs (L.getD n yF0) x
    · rw [if_pos hi]
      have hlen : (L.eraseIdx n).length = L.length - 1 := List.length_eraseIdx_of_lt (by omega)
      exact yCl_in hP n _ (by omega) (hP L n (by omega) hi.2 h)
    · rw [if_neg hi]
      exact yCl_in hP n L (by omega) h
end
/-! clear: both sides -/
def y_clear (x : Int32) (S : yS) : Nat × Int32 × yS := if yNo x 3 then (1, 0, S) else if S.dn = true then (0, -33, S) else if yRs S.fs x.toInt.toNat S.fs.length = 0 then (0, 0, S) else if S.pw = 1 then (0, -32, (S.spw 0).sdn true) else (0, nI (yRs S.fs x.toInt.toNat S.fs.length), (S.spw (S.pw - 1)).sfs (yCl x.toInt.toNat S.fs.length S.fs))
section
variable {c : Nat} {S : yS} {s : aT} {L : List yFi}
theorem L_clear (hw : yWf S) (hc : c ≤ 100000) (h : yLI c S s) (d : Nat) {E : Nat → Nat} (hE : E 1 = 2) (x : Int32) : yLr c s E (fLk_clear (d + 14) x s) (y_clear x S) := by
  have hL := hw.2.2.2.2
  by_cases hx : yNo x 3
  · have er : y_clear x S = (1, 0, S) := if_pos hx
    rw [er]
    refine yLr_k (by omega) (eLk_clear (d + 13) _ _ _ ?_)
    rw [Lk_ns, if_pos hx, hE]
    rfl
  · by_cases hd : S.dn = true
    · have er : y_clear x S = (0, -33, S) := by unfold y_clear; rw [if_neg hx, if_pos hd]
      rw [er]
      refine yLr_0 ⟨s, eLk_clear (d + 13) _ _ _ ?_, yLI_c (by omega) h, xLk_r⟩
      rw [Lk_ns, if_neg hx, cG_V, h.1.2, if_neg (by rw [hd]; decide)]
      rfl
    · have hd0 : S.dn = false := by simpa using hd
      obtain ⟨n, n1, rfl⟩ := yNo_n (by omega) hx
      obtain ⟨⟨a1, a2⟩, ⟨b1, b2, b3⟩, d1, ⟨tn, e1, e2, e3⟩, f1, g1, i1, j1⟩ := h
      rw [yUp_f hd0] at f1 g1
      have hrs := yRs_40 hL n (Nat.le_refl S.fs.length)
      have hro := Fl_ro f1 hL.1 (d + 11) (x := n) (by omega)
      have go : ∀ r, (if ¬ nI (yRs S.fs n S.fs.length) = 0 then cG (fFl_removeRowsOf (d + 13) (nI n) s) (kV fun s4 => cG (fLk_writeList (d + 13) s4) (kI fun v6 s5 => if ¬ v6 = 0 then rI v6 s5 else rI (nI (yRs S.fs n S.fs.length)) s5)) else rI 0 s) = some r → fLk_clear (d + 14) (nI n) s = some r := fun r hr => by
        refine eLk_clear (d + 13) _ _ _ ?_
        rw [Lk_ns, if_neg hx, cG_V, a2, if_pos (by rw [hd0]; rfl), hro, cG_I]
        exact hr
      have ez : (nI (yRs S.fs n S.fs.length) = 0) = (yRs S.fs n S.fs.length = 0) := by rw [show (0 : Int32) = nI 0 from rfl, nI_eqE (by omega) (by omega)]
      by_cases h0 : yRs S.fs n S.fs.length = 0
      · have er : y_clear (nI n) S = (0, 0, S) := by unfold y_clear; rw [if_neg hx, if_neg hd, nI_ti2 (by omega), if_pos h0]
        rw [er]
        refine yLr_0 ⟨s, go _ ?_, yLI_c (c := c) (by omega) ⟨⟨a1, a2⟩, ⟨b1, b2, b3⟩, d1, ⟨tn, e1, e2, e3⟩, by rw [yUp_f hd0]; exact f1, by rw [yUp_f hd0]; exact g1, i1, j1⟩, xLk_r⟩
        rw [if_neg (by rw [ez]; exact fun e => e h0)]
        rfl
      · obtain ⟨s1, r1, r2, r3, r4⟩ := Fl_rro f1 hL.1 (d + 12) (x := n) (by omega)
        have o1 : ∀ k i, ¬ (58 ≤ k ∧ k ≤ 63) ∨ k = 58 ∧ i ≠ 5 → gI s1 k i = gI s k i := fun k i hk => r1.1 k i (by show ¬ (59 ≤ k ∧ k ≤ 63 ∨ k = 58 ∧ i = 5); omega)
        have hwl := Lk_wl (L := S.fs) (L' := yCl n S.fs.length S.fs) (s := s1) (tn := tn) (pw := S.pw) r2 r3 hL.1.1 (by rw [o1 58 6 (by omega)]; exact e3 hd0) (by omega) (by rw [o1 56 1 (by omega)]; exact d1) hw.2.2.2.1 (lDl_fr (fun i _ => o1 57 i (by omega)) e2) (fun t ht => by rw [o1 23 t (by omega)]; exact g1.2.1 t ht) d
        by_cases hp : S.pw = 1
        · have er : y_clear (nI n) S = (0, -32, (S.spw 0).sdn true) := by unfold y_clear; rw [if_neg hx, if_neg hd, nI_ti2 (by omega), if_neg h0, if_pos hp]
          rw [er]
          rw [if_pos hp] at hwl
          obtain ⟨s', q1, q2, q3, q4, q5, q6, q7⟩ := hwl
          have o2 : ∀ k i, (k < 7 ∧ ¬ (k = 0 ∧ i = 16)) ∨ k = 49 ∨ k = 50 ∨ 67 ≤ k → gI s' k i = gI s k i := fun k i hk => by rw [q7 k i (by unfold xWl; omega) (by unfold xLs; omega), o1 k i (by omega)]
          refine yLr_0 ⟨s', go _ ?_, ⟨⟨by rw [o2 0 15 (by omega)]; exact a1, by rw [q6]; rfl⟩, ⟨lBy_fr (fun k i hk => o2 k i (by omega)) b1, lBy_fr (fun k i hk => o2 k i (by omega)) b2, lBy_fr (fun k i hk => o2 k i (by omega)) b3⟩, q2, ⟨tn, by omega, q3, fun e => by cases e⟩, q5, q4, ?_, lMk_fr (o2 49 4 (by omega)) (fun i _ => o2 50 i (by omega)) (by omega) j1⟩, fun k i hk => o2 k i (by omega)⟩
          · rw [if_pos (by rw [ez]; exact h0), r4, cG_V, q1, cG_I, if_pos (by decide)]
            rfl
          · intro i hi j hj
            have hb := (hL.1.2 i hi).2.1
            have hi : i < S.fs.length := hi
            rw [q7 57 _ (by unfold xWl; show ¬ (57 = 56 ∧ _ ∨ 57 = 57 ∧ 256 * (S.fs.getD i yF0).2.2.1 + j < 512 ∨ 57 = 58 ∨ 57 = 64 ∨ 57 = 65); omega) (by unfold xLs; omega), o1 57 _ (by omega)]
            exact i1 i hi j hj
        · have er : y_clear (nI n) S = (0, nI (yRs S.fs n S.fs.length), (S.spw (S.pw - 1)).sfs (yCl n S.fs.length S.fs)) := by unfold y_clear; rw [if_neg hx, if_neg hd, nI_ti2 (by omega), if_neg h0, if_neg hp]
          rw [er]
          rw [if_neg hp] at hwl
          obtain ⟨s', q1, q2, q3, q4, q5, q6⟩ := hwl
          have o2 : ∀ k i, k < 56 ∨ 67 ≤ k → gI s' k i = gI s k i := fun k i hk => by rw [q6 k i (by unfold xWl; omega), o1 k i (by omega)]
          have hall := yCl_in (x := n) (P := fun L => yLw L ∧ lSc L s ∧ lDf L s) (fun L k hk hz hh => ⟨yLw_er hh.1 hk hz, lSc_er hh.2.1 hk hz, lDf_er hh.2.2 hk⟩) S.fs.length S.fs (Nat.le_refl _) ⟨hL, g1, i1⟩
          refine yLr_0 ⟨s', go _ ?_, ⟨⟨by rw [o2 0 15 (by omega)]; exact a1, by rw [o2 0 16 (by omega)]; exact a2⟩, ⟨lBy_fr (fun k i hk => o2 k i (by omega)) b1, lBy_fr (fun k i hk => o2 k i (by omega)) b2, lBy_fr (fun k i hk => o2 k i (by omega)) b3⟩, q2, ⟨tn + 1, by omega, q3, fun _ => q4⟩, ?_, ?_, ?_, lMk_fr (o2 49 4 (by omega)) (fun i _ => o2 50 i (by omega)) (by omega) j1⟩, fun k i hk => o2 k i (by omega)⟩
          · rw [if_pos (by rw [ez]; exact h0), r4, cG_V, q1, cG_I, if_neg (fun e => e rfl)]
            rfl
          · rw [yUp_f (S := (S.spw (S.pw - 1)).sfs (yCl n S.fs.length S.fs)) hd0]
            exact q5
          · rw [yUp_f (S := (S.spw (S.pw - 1)).sfs (yCl n S.fs.length S.fs)) hd0]
            exact lSc_fr (fun k i a b => o2 k i (by omega)) hall.2.1
          · intro i hi j hj
            have hi : i < (yCl n S.fs.length S.fs).length := hi
            have hb := (hall.1.1.2 i hi).2.1
            show gI s' 57 (256 * ((yCl n S.fs.length S.fs).getD i yF0).2.2.1 + j) = _
            rw [q6 57 _ (by unfold xWl; omega), o1 57 _ (by omega)]
            exact hall.2.2 i hi j hj
/-- the reference takes files out -/
theorem Mo_cl36 (d : Nat) {x : Nat} (hx : x < 4) {z2 : Int32} : ∀ n L s0 s, n ≤ L.length → mFi L s → yLs L → xF x137 s0 s → ∃ s', xF x137 s0 s' ∧ mFi (yCl x n L) s' ∧ fMo_clear_36 (d + 1) (nI x) z2 (zI n) s = rI z2 s' := by
  intro n
  induction n with
  | zero =>
    intro L s0 s hn hl hs h
    refine ⟨s, h, hl, eMo_clear_36 d _ _ _ _ _ ?_⟩
    rw [if_pos (by decide)]
    rfl
  | succ n ih =>
    intro L s0 s hn hl hs h
    have h40 := hs.1
    obtain ⟨a1, a2, a3, a4, a5, a6⟩ := hl.2 n (by omega)
    obtain ⟨b1, b2, b3, b4, b5⟩ := hs.2 n (by omega)
    have e52 : ∀ s, ∀ r, fMo_clear_36 (d + 1) (nI x) z2 (zI n) s = some r → fMo_clear_52 (d + 1) (nI x) z2 (nI n) s = some r := fun s r hr => by
      refine eMo_clear_52 d _ _ _ _ _ ?_
      rw [nI_m1]
      exact hr
    have eo : (nI (L.getD n yF0).1 = nI x) = ((L.getD n yF0).1 = x) := nI_eqE (by omega) (by omega)
    have ez : (zI (L.getD n yF0).2.2.2.2.1 < 0) = ((L.getD n yF0).2.2.2.2.1 = 0) := zI_lt0 (by omega)
    have ecl : yCl x (n + 1) L = yCl x n (if yIs (L.getD n yF0) x then L.eraseIdx n else L) := rfl
    by_cases hi : yIs (L.getD n yF0) x
    · obtain ⟨s1, p1, p2, p3⟩ := Mo_to hl hs d (k := n) (by omega)
      have hlen : (L.eraseIdx n).length = L.length - 1 := List.length_eraseIdx_of_lt (by omega)
      obtain ⟨s', r1, r2, r4⟩ := ih (L.eraseIdx n) s0 s1 (by omega) p2 (yLs_er hs (by omega)) (xF_t h p1)
      refine ⟨s', r1, by rw [ecl, if_pos hi]; exact r2, eMo_clear_36 d _ _ _ _ _ ?_⟩
      rw [zI_S, if_neg (nI_n0 (by omega)), ldI_n (by omega) (by omega), a1, if_neg (fun e => e (by rw [eo]; exact hi.1)), ldI_n (by omega) (by omega), a5, if_neg (by rw [ez]; exact hi.2), p3, cG_V]
      exact e52 s1 _ r4
    · obtain ⟨s', r1, r2, r4⟩ := ih L s0 s (by omega) hl hs h
      refine ⟨s', r1, by rw [ecl, if_neg hi]; exact r2, eMo_clear_36 d _ _ _ _ _ ?_⟩
      rw [zI_S, if_neg (nI_n0 (by omega)), ldI_n (by omega) (by omega), a1]
      by_cases h1 : (L.getD n yF0).1 = x
      · rw [if_neg (fun e => e (by rw [eo]; exact h1)), ldI_n (by omega) (by omega), a5, if_pos (by rw [ez]; exact Classical.not_not.mp (fun e => hi ⟨h1, e⟩))]
        exact e52 s _ r4
      · rw [if_pos (by rw [eo]; exact h1)]
        exact e52 s _ r4
theorem M_clear (hw : yWf S) (h : yMI S s) (d : Nat) (x : Int32) : yMr s (fMo_clear (d + 2) x s) (y_clear x S) := by
  have hL := hw.2.2.2.2
  have hy : ∀ v, yMI S (pI s 67 0 v) := fun v => yMI_0 h
  by_cases hx : yNo x 3
  · have er : y_clear x S = (1, 0, S) := if_pos hx
    rw [er]
    refine ⟨pI s 67 0 (nI 1), eMo_clear (d + 1) _ _ _ ?_, by rw [gI_pI, if_pos ⟨rfl, rfl⟩], hy _, xMo_0⟩
    rw [Mo_isS, cG_I, show decide (¬ yNo x 3) = false from decide_eq_false (fun e => e hx), if_neg (by decide)]
    refine eMo_clear_7 (d + 1) _ _ _ _ ?_
    have e0 : fMo_refused (d + 1) 1 0 s = rI 1 (pI s 67 0 (nI 1)) := Mo_ref (d + 1) (a := true) (b := false)
    rw [e0, cG_I, if_neg (by decide)]
    rfl
  · have e0 : fMo_refused (d + 1) 0 0 s = rI 0 (pI s 67 0 (nI 0)) := Mo_ref (d + 1) (a := false) (b := false)
    have go : ∀ r, (if gI (pI s 67 0 (nI 0)) 67 11 = 0 then cG (fMo_rows (d + 1) x (pI s 67 0 (nI 0))) (kI fun v4 s3 => if ¬ v4 = 0 then cG (fMo_writes (d + 1) 1 s3) (kI fun v6 s5 => if ¬ v6 = 0 then fMo_clear_36 (d + 2) x v4 ((gI s5 67 13) - 1) s5 else rI (-32) s5) else rI 0 s3) else rI (-33) (pI s 67 0 (nI 0))) = some r → fMo_clear (d + 2) x s = some r := fun r hr => by
      refine eMo_clear (d + 1) _ _ _ ?_
      rw [Mo_isS, cG_I, show decide (¬ yNo x 3) = true from decide_eq_true hx, if_pos (by decide)]
      refine eMo_clear_7 (d + 1) _ _ _ _ ?_
      rw [e0, cG_I, if_pos rfl]
      exact hr
    by_cases hd : S.dn = true
    · have er : y_clear x S = (0, -33, S) := by unfold y_clear; rw [if_neg hx, if_pos hd]
      rw [er]
      refine ⟨pI s 67 0 (nI 0), go _ ?_, by rw [gI_pI, if_pos ⟨rfl, rfl⟩], hy _, xMo_0⟩
      rw [(hy _).1.2, if_neg (by rw [hd]; decide)]
      rfl
    · have hd0 : S.dn = false := by simpa using hd
      obtain ⟨n, n1, rfl⟩ := yNo_n (by omega) hx
      have h' := hy (nI 0)
      have h0' : gI (pI s 67 0 (nI 0)) 67 0 = nI 0 := by rw [gI_pI, if_pos ⟨rfl, rfl⟩]
      have xm : xMk 0 s (pI s 67 0 (nI 0)) := xMo_0
      generalize pI s 67 0 (nI 0) = s1 at *
      obtain ⟨⟨a1, a2⟩, ⟨b1, b2⟩, ⟨d1, d2⟩, ⟨e1, e2⟩, f1, g1, i1⟩ := h'
      have hrs := yRs_40 hL n (Nat.le_refl S.fs.length)
      have hro := Mo_rs g1 hL.1 (d + 1) (x := n) (by omega)
      have ez : (nI (yRs S.fs n S.fs.length) = 0) = (yRs S.fs n S.fs.length = 0) := by rw [show (0 : Int32) = nI 0 from rfl, nI_eqE (by omega) (by omega)]
      rw [a2, if_pos (by rw [hd0]; rfl), hro, cG_I] at go
      by_cases h0 : yRs S.fs n S.fs.length = 0
      · have er : y_clear (nI n) S = (0, 0, S) := by unfold y_clear; rw [if_neg hx, if_neg hd, nI_ti2 (by omega), if_pos h0]
        rw [er]
        refine ⟨s1, go _ ?_, h0', ⟨⟨a1, a2⟩, ⟨b1, b2⟩, ⟨d1, d2⟩, ⟨e1, e2⟩, f1, g1, i1⟩, xMo_w xm⟩
        rw [if_neg (by rw [ez]; exact fun e => e h0)]
        rfl
      · have hws := Mo_ws (s := s1) (d + 1) (n := 1) f1 hw.2.2.2.1 (by omega)
        rw [if_pos (by rw [ez]; exact h0), show (1 : Int32) = nI 1 from rfl] at go
        by_cases hp : S.pw = 1
        · have er : y_clear (nI n) S = (0, -32, (S.spw 0).sdn true) := by unfold y_clear; rw [if_neg hx, if_neg hd, nI_ti2 (by omega), if_neg h0, if_pos hp]
          rw [er]
          rw [if_pos ⟨by omega, by omega⟩] at hws
          have o : ∀ k i, ¬ (k = 67 ∧ (i = 11 ∨ i = 12)) → gI (pI (pI s1 67 12 (-1)) 67 11 1) k i = gI s1 k i := fun k i hk => by rw [gI_pI, if_neg (by omega), gI_pI, if_neg (by omega)]
          refine ⟨_, go _ ?_, by rw [o 67 0 (by omega)]; exact h0', ⟨⟨by rw [o 67 3 (by omega)]; exact a1, by rw [gI_pI, if_pos ⟨rfl, rfl⟩]; rfl⟩, ⟨by rw [o 67 2 (by omega)]; exact b1, fun i hi => by rw [o 68 i (by omega)]; exact b2 i hi⟩, ⟨by rw [o 67 8 (by omega)]; exact d1, fun i hi => by rw [o 135 i (by omega)]; exact d2 i hi⟩, ⟨by rw [o 67 10 (by omega)]; exact e1, fun i hi => by rw [o 136 i (by omega)]; exact e2 i hi⟩, by rw [gI_pI, if_neg (by omega), gI_pI, if_pos ⟨rfl, rfl⟩]; rfl, mFi_fr (o 67 13 (by omega)) (fun k i h1 h2 => o k i (by omega)) g1, fun i hi j hj => by rw [o 143 _ (by omega)]; exact i1.1 i hi j hj, fun i hi => by rw [o 143 _ (by omega)]; exact i1.2 i hi⟩, xMo_t xm ⟨fun k i hk => o k i (by omega), Nat.le_add_right _ _, rfl⟩⟩
          rw [hws, cG_I, if_neg (fun e => e rfl)]
          rfl
        · have er : y_clear (nI n) S = (0, nI (yRs S.fs n S.fs.length), (S.spw (S.pw - 1)).sfs (yCl n S.fs.length S.fs)) := by unfold y_clear; rw [if_neg hx, if_neg hd, nI_ti2 (by omega), if_neg h0, if_neg hp]
          rw [er]
          rw [if_neg (by omega)] at hws
          have g2 : mFi S.fs (pI s1 67 12 (zI (S.pw - 1))) := mFi_fr (by rw [gI_pI, if_neg (by omega)]) (fun k i h1 h2 => by rw [gI_pI, if_neg (by omega)]) g1
          obtain ⟨s', r1, r2, r3⟩ := Mo_cl36 (d + 1) (x := n) (by omega) (z2 := nI (yRs S.fs n S.fs.length)) S.fs.length S.fs _ _ (Nat.le_refl _) g2 hL.1 xF_r
          have o : ∀ k i, (k < 137 ∧ ¬ (k = 67 ∧ (i = 12 ∨ i = 13))) ∨ 143 ≤ k → gI s' k i = gI s1 k i := fun k i hk => by rw [r1.1 k i (by show ¬ (137 ≤ k ∧ k ≤ 142 ∨ k = 67 ∧ i = 13); omega), gI_pI, if_neg (by omega)]
          have hall := yCl_in (x := n) (P := fun L => mDf L s1) (fun L k hk hz hh => mDf_er hh hk) S.fs.length S.fs (Nat.le_refl _) i1.1
          refine ⟨s', go _ ?_, by rw [o 67 0 (by omega)]; exact h0', ⟨⟨by rw [o 67 3 (by omega)]; exact a1, by rw [o 67 11 (by omega)]; exact a2⟩, ⟨by rw [o 67 2 (by omega)]; exact b1, fun i hi => by rw [o 68 i (by omega)]; exact b2 i hi⟩, ⟨by rw [o 67 8 (by omega)]; exact d1, fun i hi => by rw [o 135 i (by omega)]; exact d2 i hi⟩, ⟨by rw [o 67 10 (by omega)]; exact e1, fun i hi => by rw [o 136 i (by omega)]; exact e2 i hi⟩, by rw [r1.1 67 12 (by show ¬ (137 ≤ 67 ∧ 67 ≤ 142 ∨ 67 = 67 ∧ 12 = 13); omega), gI_pI, if_pos ⟨rfl, rfl⟩]; rfl, r2, fun i hi j hj => by rw [o 143 _ (by omega)]; exact hall i hi j hj, fun i hi => by rw [o 143 _ (by omega)]; exact i1.2 i hi⟩, xMo_t xm ⟨fun k i hk => o k i (by omega), by rw [r1.2]; exact Nat.le_add_right _ _, by
            show s'.2.1 149 0 = _
            rw [r1.2]
            rfl⟩⟩
          have e13 : gI (pI s1 67 12 (zI (S.pw - 1))) 67 13 - nI 1 = zI S.fs.length := by
            rw [gI_pI, if_neg (by omega), g1.1]
            rw [← nI_m1 S.fs.length, Int32.sub_eq_add_neg]
            rfl
          rw [hws, cG_I, if_pos (by decide), e13]
          exact r3
end
