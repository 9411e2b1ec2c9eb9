/-! compact: the reference -/
section
variable {S : yS} {s s0 : aT} {n a b : Nat}
theorem Mo_as25 (d : Nat) {A B : List Nat} (hl : A.length ≤ 4096) (he : A.length = B.length) (hA : kBt A) (hB : kBt B) (h1 : gI s 91 33 = nI A.length) (h2 : ∀ i, i < A.length → gI s 111 i = mI (A.getD i 0)) (h3 : ∀ i, i < B.length → gI s 133 i = mI (B.getD i 0)) : ∀ k j, j + k = A.length → (∀ i, i < j → A.getD i 0 = B.getD i 0) → fMo_areSame_25 (d + 1) 1 (nI j) s = rI (uB (decide (A = B))) s := by
  intro k
  induction k with
  | zero =>
    intro j hj hi
    have e : A = B := by
      apply List.ext_getElem?
      intro i
      by_cases c : i < A.length
      · have := hi i (by omega)
        rw [List.getD_eq_getElem?_getD, List.getD_eq_getElem?_getD, List.getElem?_eq_getElem c, List.getElem?_eq_getElem (show i < B.length by omega)] at this
        rw [List.getElem?_eq_getElem c, List.getElem?_eq_getElem (show i < B.length by omega)]
        exact congrArg some this
      · rw [List.getElem?_eq_none (by omega), List.getElem?_eq_none (by omega)]
    rw [decide_eq_true e]
    refine eMo_areSame_25 d _ _ _ _ ?_
    rw [h1, if_pos (show nI A.length ≤ nI j by rw [nI_leE (by omega) (by omega)]; omega)]
    exact rZ1 _
  | succ k ih =>
    intro j hj hi
    refine eMo_areSame_25 d _ _ _ _ ?_
    rw [h1, if_neg (show ¬ nI A.length ≤ nI j by rw [nI_leE (by omega) (by omega)]; omega), if_neg (by decide), ldI_n (by omega) (by omega), ldI_n (by omega) (by omega), h2 j (by omega), h3 j (by omega)]
    have em := mI_inj (kBt_gd hA j) (kBt_gd hB j)
    by_cases e : A.getD j 0 = B.getD j 0
    · rw [if_neg (fun x => x (em.mpr e))]
      refine eMo_areSame_46 d _ _ _ _ ?_
      rw [nI_add1]
      exact ih (j + 1) (by omega) (fun i hi2 => by
        by_cases c : i = j
        · rw [c]; exact e
        · exact hi i (by omega))
    · have en : A ≠ B := fun x => e (by rw [x])
      rw [if_pos (fun x => e (em.mp x)), decide_eq_false en]
      refine eMo_areSame_46 d _ _ _ _ (eMo_areSame_25 d _ _ _ _ ?_)
      rw [nI_add1, h1]
      split
      · exact rZ0 _
      · rw [if_pos rfl]
        exact rZ0 _
theorem Mo_as (hw : yWf S) (h : yMI S s) (h0 : gI s 67 0 = nI 0) {v1 v2 : Nat} (hv1 : yVf S.fs n v1 ≠ 0) (hv2 : yVf S.fs n v2 ≠ 0) (d : Nat) : ∃ s', fMo_areSame (d + 60) (nI n) (nI v1) (nI v2) s = rI (uB (decide (yPf (yVd S.fs n v1) = yPf (yVd S.fs n v2)))) s' ∧ yMI S s' ∧ gI s' 67 0 = nI 0 ∧ xMk 0 s s' := by
  have hL := hw.2.2.2.2
  obtain ⟨s1, q1, q2, _, _, q5, q6⟩ := Mo_rdv hL h hv1 (.inl rfl) d
  have hs1 : yMI S s1 := yMI_fr (fun k i hk hn => (q2 k i (by
    by_cases e : 91 ≤ k ∧ k < 113
    · exact absurd (show xTm k i by unfold xTm; omega) hn
    · omega)).1) h
  obtain ⟨s2, p1, p2, _, _, p5, p6⟩ := Mo_rdv hL hs1 hv2 (.inr rfl) d
  have hs2 : yMI S s2 := yMI_fr (fun k i hk hn => (p2 k i (by
    by_cases e : 113 ≤ k ∧ k < 135
    · exact absurd (show xTm k i by unfold xTm; omega) hn
    · omega)).1) hs1
  have c1 := (hL.2.2.1 _ ((yVf_iff hL).2 hv1).1 ((yVf_iff hL).2 hv1).2.1.2).1
  have c2 := (hL.2.2.1 _ ((yVf_iff hL).2 hv2).1 ((yVf_iff hL).2 hv2).2.1.2).1
  have g1 : gI s2 91 33 = nI (yPf (yVd S.fs n v1)).length := by rw [(p2 91 33 (by omega)).1]; exact q5
  have g2 : gI s2 113 33 = nI (yPf (yVd S.fs n v2)).length := p5
  have g3 : ∀ i, i < (yPf (yVd S.fs n v1)).length → gI s2 111 i = mI ((yPf (yVd S.fs n v1)).getD i 0) := fun i hi => by rw [(p2 111 i (by omega)).1]; exact q6 i hi
  have g4 : ∀ i, i < (yPf (yVd S.fs n v2)).length → gI s2 133 i = mI ((yPf (yVd S.fs n v2)).getD i 0) := fun i hi => p6 i hi
  have l1 : (yPf (yVd S.fs n v1)).length ≤ 4096 := Nat.le_trans (yPf_bt c1).2 c1.1.2
  have l2 : (yPf (yVd S.fs n v2)).length ≤ 4096 := Nat.le_trans (yPf_bt c2).2 c2.1.2
  have b1 := (yPf_bt c1).1
  have b2 := (yPf_bt c2).1
  have go : ∀ r, (if ¬ gI s2 91 33 = gI s2 113 33 then fMo_areSame_22 (d + 60) 0 s2 else fMo_areSame_22 (d + 60) 1 s2) = some r → fMo_areSame (d + 60) (nI n) (nI v1) (nI v2) s = some r := fun r hr => by
    refine eMo_areSame (d + 59) _ _ _ _ _ ?_
    rw [q1, cG_V, p1, cG_V]
    exact hr
  refine ⟨s2, go _ ?_, hs2, by rw [(p2 67 0 (by omega)).1, (q2 67 0 (by omega)).1]; exact h0, ⟨fun k i hk => by rw [(p2 k i (by omega)).1, (q2 k i (by omega)).1], by rw [Mo_rdvU hL hs1 hv2 (.inr rfl) d p1, Mo_rdvU hL h hv1 (.inl rfl) d q1]; exact Nat.le_refl _, (p2 149 0 (by omega)).2.trans (q2 149 0 (by omega)).2⟩⟩
  rw [g1, g2]
  have ee : (nI (yPf (yVd S.fs n v1)).length = nI (yPf (yVd S.fs n v2)).length) = ((yPf (yVd S.fs n v1)).length = (yPf (yVd S.fs n v2)).length) := nI_eqE (by omega) (by omega)
  by_cases e : (yPf (yVd S.fs n v1)).length = (yPf (yVd S.fs n v2)).length
  · rw [if_neg (fun x => x (ee.mpr e))]
    refine eMo_areSame_22 (d + 59) _ _ _ ?_
    exact Mo_as25 (d + 59) l1 e b1 b2 g1 g3 g4 (yPf (yVd S.fs n v1)).length 0 (Nat.zero_add _) (fun i hi => absurd hi (Nat.not_lt_zero _))
  · have en : yPf (yVd S.fs n v1) ≠ yPf (yVd S.fs n v2) := fun x => e (by rw [x])
    rw [if_pos (fun x => e (ee.mp x)), decide_eq_false en]
    refine eMo_areSame_22 (d + 59) _ _ _ (eMo_areSame_25 (d + 59) _ _ _ _ ?_)
    split
    · exact rZ0 _
    · rw [if_pos rfl]
      exact rZ0 _
/-- the data of both come together -/
theorem Mo_j2 (d : Nat) {x4 : Int32} {ba bb : Nat} {A B : List Nat} (hA : kBt A) (hB : kBt B) (hal : a < 40) (hbl : b < 40) (hl : A.length + B.length ≤ 4096) (h142 : gI s 142 a = nI A.length) (h139 : gI s 139 a = nI ba) (h139b : gI s 139 b = nI bb) (hba : 256 * ba + A.length ≤ 32768) (hbb : 256 * bb + B.length ≤ 32768) (hdA : ∀ j, j < A.length → gI s 143 (256 * ba + j) = mI (A.getD j 0)) (hdB : ∀ j, j < B.length → gI s 143 (256 * bb + j) = mI (B.getD j 0)) : ∀ k j, j + k = A.length + B.length → ∀ R, fMo_join_2 (d + 1) (nI a) (nI b) (nI (A.length + B.length)) x4 (nI (A.length + B.length)) (oPx 147 (A ++ B) (A.length + B.length) s) = some R → fMo_join_2 (d + 1) (nI a) (nI b) (nI (A.length + B.length)) x4 (nI j) (oPx 147 (A ++ B) j s) = some R := by
  intro k
  induction k with
  | zero =>
    intro j hj R hR
    rw [show j = A.length + B.length by omega]
    exact hR
  | succ k ih =>
    intro j hj R hR
    have nx : ∀ w, w = mI ((A ++ B).getD j 0) → fMo_join_42 (d + 1) (nI a) (nI b) (nI (A.length + B.length)) x4 (nI j) w (nI j) (oPx 147 (A ++ B) j s) = some R := fun w hw => by
      refine eMo_join_42 d _ _ _ _ _ _ _ _ _ ?_
      rw [hw, mI_nar _ (kBt_gd (kBt_a hA hB) j), stI_n (by omega) (by omega), oPx_s, nI_add1]
      exact ih (j + 1) (by omega) R hR
    refine eMo_join_2 d _ _ _ _ _ _ _ ?_
    rw [if_neg (show ¬ nI (A.length + B.length) ≤ nI j by rw [nI_leE (by omega) (by omega)]; omega), ldI_n (by omega) (by omega), oPx_o (by omega), h142]
    by_cases c : A.length ≤ j
    · rw [if_pos (show nI A.length ≤ nI j by rw [nI_leE (by omega) (by omega)]; exact c), ldI_n (by omega) (by omega), oPx_o (by omega), h139b, ldI_n (by omega) (by omega), oPx_o (by omega), h142, show (256 : Int32) = nI 256 from rfl, nI_mulE, nI_addE, nI_sub (by omega), ldI_n (by omega) (by omega), oPx_o (by omega)]
      refine nx _ ?_
      rw [show 256 * bb + j - A.length = 256 * bb + (j - A.length) by omega, hdB _ (by omega), getD_r (by omega)]
    · rw [if_neg (show ¬ nI A.length ≤ nI j by rw [nI_leE (by omega) (by omega)]; exact c), ldI_n (by omega) (by omega), oPx_o (by omega), h139, show (256 : Int32) = nI 256 from rfl, nI_mulE, nI_addE, ldI_n (by omega) (by omega), oPx_o (by omega)]
      refine nx _ ?_
      rw [hdA _ (by omega), getD_l (by omega)]
end
