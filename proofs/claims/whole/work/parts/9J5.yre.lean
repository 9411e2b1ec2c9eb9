/-! a file is taken out of the list -/
def lRw (f : yFi) (i : Nat) (s : aT) : Prop := gI s 59 i = nI f.1 ∧ gI s 60 i = nI f.2.1 ∧ gI s 61 i = nI f.2.2.1 ∧ gI s 62 i = nI f.2.2.2.1 ∧ gI s 63 i = zI f.2.2.2.2.1
def mRw (f : yFi) (i : Nat) (s : aT) : Prop := gI s 137 i = nI f.1 ∧ gI s 138 i = nI f.2.1 ∧ gI s 139 i = nI f.2.2.1 ∧ gI s 140 i = nI f.2.2.2.1 ∧ gI s 141 i = zI f.2.2.2.2.1 ∧ gI s 142 i = nI f.2.2.2.2.2.length
theorem gD_er {L : List yFi} {k i : Nat} : (L.eraseIdx k).getD i yF0 = if i < k then L.getD i yF0 else L.getD (i + 1) yF0 := by
  rw [List.getD_eq_getElem?_getD, List.getElem?_eraseIdx]
  by_cases h : i < k
  · rw [if_pos h, if_pos h, List.getD_eq_getElem?_getD]
  · rw [if_neg h, if_neg h, List.getD_eq_getElem?_getD]
section
variable {L : List yFi} {s : aT}
/-- the lake's five cells -/
def l5 (f1 f2 f3 f4 f5 : Int32) (i : Nat) (s : aT) : aT := pI (pI (pI (pI (pI s 59 i f1) 60 i f2) 61 i f3) 62 i f4) 63 i f5
theorem l5_I {f1 f2 f3 f4 f5 : Int32} {i k j : Nat} : gI (l5 f1 f2 f3 f4 f5 i s) k j = if j = i then (if k = 63 then f5 else if k = 62 then f4 else if k = 61 then f3 else if k = 60 then f2 else if k = 59 then f1 else gI s k j) else gI s k j := by
  unfold l5
  simp only [gI_pI]
  by_cases h : j = i
  · simp [h]
  · simp [h]
theorem l5_x {f1 f2 f3 f4 f5 : Int32} {i : Nat} {s0 : aT} (h : xF x58 s0 s) : xF x58 s0 (l5 f1 f2 f3 f4 f5 i s) := xF_p (xF_p (xF_p (xF_p (xF_p h (.inl (by omega))) (.inl (by omega))) (.inl (by omega))) (.inl (by omega))) (.inl (by omega))
theorem Fl_re (hl : lFi L s) (hs : yLs L) (d : Nat) {k : Nat} (hk : k < L.length) : ∃ s', xF x58 s s' ∧ lFi (L.eraseIdx k) s' ∧ fFl_remove d (nI k) s = rV s' := by
  have h40 := hs.1
  have hlen : (L.eraseIdx k).length = L.length - 1 := List.length_eraseIdx_of_lt hk
  have loop : ∀ n j s1, j + n = L.length - 1 → k ≤ j → xF x58 s s1 → gI s1 58 5 = nI (L.length - 1) → (∀ i, i < L.length → lRw (if k ≤ i ∧ i < j then L.getD (i + 1) yF0 else L.getD i yF0) i s1) → ∃ s', xF x58 s s' ∧ lFi (L.eraseIdx k) s' ∧ fFl_remove_8 d (nI j) s1 = rV s' := by
    intro n
    induction n with
    | zero =>
      intro j s1 hj hkj hx h5 hr
      refine ⟨s1, hx, ⟨by rw [h5, hlen], fun i hi => ?_⟩, eFl_remove_8 d _ _ _ ?_⟩
      · rw [hlen] at hi
        have := hr i (by omega)
        rw [gD_er]
        by_cases h : i < k
        · rw [if_neg (by omega)] at this
          rw [if_pos h]
          exact this
        · rw [if_pos (by omega)] at this
          rw [if_neg h]
          exact this
      · rw [h5, if_pos (show nI (L.length - 1) ≤ nI j by rw [nI_leE (by omega) (by omega)]; omega)]
        rfl
    | succ n ih =>
      intro j s1 hj hkj hx h5 hr
      have hn := hr (j + 1) (by omega)
      rw [if_neg (by omega)] at hn
      obtain ⟨a1, a2, a3, a4, a5⟩ := hn
      obtain ⟨s', r1, r2, r3⟩ := ih (j + 1) (l5 (nI (L.getD (j + 1) yF0).1) (nI (L.getD (j + 1) yF0).2.1) (nI (L.getD (j + 1) yF0).2.2.1) (nI (L.getD (j + 1) yF0).2.2.2.1) (zI (L.getD (j + 1) yF0).2.2.2.2.1) j s1) (by omega) (by omega) (l5_x hx) (by rw [l5_I]; simp [h5]) (fun i hi => by
        by_cases e : i = j
        · subst e
          rw [if_pos (by omega)]
          unfold lRw
          simp [l5_I]
        · have := hr i hi
          rw [show (if k ≤ i ∧ i < j + 1 then L.getD (i + 1) yF0 else L.getD i yF0) = (if k ≤ i ∧ i < j then L.getD (i + 1) yF0 else L.getD i yF0) by
            by_cases h : k ≤ i ∧ i < j
            · rw [if_pos h, if_pos (by omega)]
            · rw [if_neg h, if_neg (by omega)]]
          unfold lRw at this ⊢
          simp only [l5_I, if_neg e]
          exact this)
      refine ⟨s', r1, r2, eFl_remove_8 d _ _ _ ?_⟩
      rw [h5, if_neg (show ¬ nI (L.length - 1) ≤ nI j by rw [nI_leE (by omega) (by omega)]; omega), nI_add1, ldI_n (by omega) (by omega), a1, stI_n (by omega) (by omega), ldI_n (by omega) (by omega), gI_pI, if_neg (by omega), a2, stI_n (by omega) (by omega), ldI_n (by omega) (by omega), gI_pI, if_neg (by omega), gI_pI, if_neg (by omega), a3, stI_n (by omega) (by omega), ldI_n (by omega) (by omega), gI_pI, if_neg (by omega), gI_pI, if_neg (by omega), gI_pI, if_neg (by omega), a4, stI_n (by omega) (by omega), ldI_n (by omega) (by omega), gI_pI, if_neg (by omega), gI_pI, if_neg (by omega), gI_pI, if_neg (by omega), gI_pI, if_neg (by omega), a5, stI_n (by omega) (by omega)]
      exact r3
  obtain ⟨s', r1, r2, r3⟩ := loop (L.length - 1 - k) k (pI s 58 5 (nI (L.length - 1))) (by omega) (Nat.le_refl _) (xF_p xF_r (.inr ⟨rfl, rfl⟩)) (by rw [gI_pI, if_pos ⟨rfl, rfl⟩]) (fun i hi => by
    rw [if_neg (by omega)]
    obtain ⟨a1, a2, a3, a4, a5⟩ := hl.2 i hi
    unfold lRw
    simp only [gI_pI]
    simp [a1, a2, a3, a4, a5])
  refine ⟨s', r1, r2, eFl_remove d _ _ _ ?_⟩
  rw [hl.1, show (1 : Int32) = nI 1 from rfl, nI_sub (by omega), wI_eq]
  exact r3
/-- what taking a file out of the reference's list changes -/
abbrev x137 : Nat → Nat → Prop := fun k i => 137 ≤ k ∧ k ≤ 142 ∨ k = 67 ∧ i = 13
def m6 (f1 f2 f3 f4 f5 f6 : Int32) (i : Nat) (s : aT) : aT := pI (pI (pI (pI (pI (pI s 137 i f1) 138 i f2) 139 i f3) 140 i f4) 141 i f5) 142 i f6
theorem m6_I {f1 f2 f3 f4 f5 f6 : Int32} {i k j : Nat} : gI (m6 f1 f2 f3 f4 f5 f6 i s) k j = if j = i then (if k = 142 then f6 else if k = 141 then f5 else if k = 140 then f4 else if k = 139 then f3 else if k = 138 then f2 else if k = 137 then f1 else gI s k j) else gI s k j := by
  unfold m6
  simp only [gI_pI]
  by_cases h : j = i
  · simp [h]
  · simp [h]
theorem m6_x {f1 f2 f3 f4 f5 f6 : Int32} {i : Nat} {s0 : aT} (h : xF x137 s0 s) : xF x137 s0 (m6 f1 f2 f3 f4 f5 f6 i s) := xF_p (xF_p (xF_p (xF_p (xF_p (xF_p h (.inl (by omega))) (.inl (by omega))) (.inl (by omega))) (.inl (by omega))) (.inl (by omega))) (.inl (by omega))
theorem Mo_to (hl : mFi L s) (hs : yLs L) (d : Nat) {k : Nat} (hk : k < L.length) : ∃ s', xF x137 s s' ∧ mFi (L.eraseIdx k) s' ∧ fMo_takeOut d (nI k) s = rV s' := by
  have h40 := hs.1
  have hlen : (L.eraseIdx k).length = L.length - 1 := List.length_eraseIdx_of_lt hk
  have loop : ∀ n j s1, j + n = L.length - 1 → k ≤ j → xF x137 s s1 → gI s1 67 13 = nI L.length → (∀ i, i < L.length → mRw (if k ≤ i ∧ i < j then L.getD (i + 1) yF0 else L.getD i yF0) i s1) → ∃ s', xF x137 s s' ∧ mFi (L.eraseIdx k) s' ∧ fMo_takeOut_2 d (nI j) s1 = rV s' := by
    intro n
    induction n with
    | zero =>
      intro j s1 hj hkj hx h5 hr
      refine ⟨pI s1 67 13 (nI (L.length - 1)), xF_p hx (.inr ⟨rfl, rfl⟩), ⟨by rw [gI_pI, if_pos ⟨rfl, rfl⟩, hlen], fun i hi => ?_⟩, eMo_takeOut_2 d _ _ _ ?_⟩
      · rw [hlen] at hi
        have := hr i (by omega)
        rw [gD_er]
        simp only [gI_pI]
        by_cases h : i < k
        · rw [if_neg (by omega)] at this
          rw [if_pos h]
          simpa [mRw] using this
        · rw [if_pos (by omega)] at this
          rw [if_neg h]
          simpa [mRw] using this
      · rw [h5, nI_add1, if_pos (show nI L.length ≤ nI (j + 1) by rw [nI_leE (by omega) (by omega)]; omega), show (1 : Int32) = nI 1 from rfl, nI_sub (by omega), wI_eq]
        rfl
    | succ n ih =>
      intro j s1 hj hkj hx h5 hr
      have hn := hr (j + 1) (by omega)
      rw [if_neg (by omega)] at hn
      obtain ⟨a1, a2, a3, a4, a5, a6⟩ := hn
      obtain ⟨s', r1, r2, r3⟩ := ih (j + 1) (m6 (nI (L.getD (j + 1) yF0).1) (nI (L.getD (j + 1) yF0).2.1) (nI (L.getD (j + 1) yF0).2.2.1) (nI (L.getD (j + 1) yF0).2.2.2.1) (zI (L.getD (j + 1) yF0).2.2.2.2.1) (nI (L.getD (j + 1) yF0).2.2.2.2.2.length) j s1) (by omega) (by omega) (m6_x hx) (by rw [m6_I]; simp [h5]) (fun i hi => by
        by_cases e : i = j
        · subst e
          rw [if_pos (by omega)]
          unfold mRw
          simp [m6_I]
        · have := hr i hi
          rw [show (if k ≤ i ∧ i < j + 1 then L.getD (i + 1) yF0 else L.getD i yF0) = (if k ≤ i ∧ i < j then L.getD (i + 1) yF0 else L.getD i yF0) by
            by_cases h : k ≤ i ∧ i < j
            · rw [if_pos h, if_pos (by omega)]
            · rw [if_neg h, if_neg (by omega)]]
          unfold mRw at this ⊢
          simp only [m6_I, if_neg e]
          exact this)
      refine ⟨s', r1, r2, eMo_takeOut_2 d _ _ _ ?_⟩
      rw [h5, nI_add1, if_neg (show ¬ nI L.length ≤ nI (j + 1) by rw [nI_leE (by omega) (by omega)]; omega), ldI_n (by omega) (by omega), a1, stI_n (by omega) (by omega), ldI_n (by omega) (by omega), gI_pI, if_neg (by omega), a2, stI_n (by omega) (by omega), ldI_n (by omega) (by omega), gI_pI, if_neg (by omega), gI_pI, if_neg (by omega), a3, stI_n (by omega) (by omega), ldI_n (by omega) (by omega), gI_pI, if_neg (by omega), gI_pI, if_neg (by omega), gI_pI, if_neg (by omega), a4, stI_n (by omega) (by omega), ldI_n (by omega) (by omega), gI_pI, if_neg (by omega), gI_pI, if_neg (by omega), gI_pI, if_neg (by omega), gI_pI, if_neg (by omega), a5, stI_n (by omega) (by omega), ldI_n (by omega) (by omega), gI_pI, if_neg (by omega), gI_pI, if_neg (by omega), gI_pI, if_neg (by omega), gI_pI, if_neg (by omega), gI_pI, if_neg (by omega), a6, stI_n (by omega) (by omega)]
      exact r3
  obtain ⟨s', r1, r2, r3⟩ := loop (L.length - 1 - k) k s (by omega) (Nat.le_refl _) xF_r hl.1 (fun i hi => by
    rw [if_neg (by omega)]
    exact hl.2 i hi)
  exact ⟨s', r1, r2, eMo_takeOut d _ _ _ r3⟩
/-- all files of rows of a subject -/
theorem yLs_er (hs : yLs L) {k : Nat} (hk : k < L.length) : yLs (L.eraseIdx k) := by
  have hlen : (L.eraseIdx k).length = L.length - 1 := List.length_eraseIdx_of_lt hk
  refine ⟨by have := hs.1; omega, fun i hi => ?_⟩
  rw [gD_er]
  by_cases h : i < k
  · rw [if_pos h]; exact hs.2 i (by omega)
  · rw [if_neg h]; exact hs.2 (i + 1) (by omega)
/-- what is left when rows of x among the first n are gone -/
def yCl (x : Nat) : Nat → List yFi → List yFi
  | 0, L => L
  | n + 1, L => yCl x n (if yIs (L.getD n yF0) x then L.eraseIdx n else L)
theorem Fl_rr (d : Nat) {x : Nat} (hx : x < 4) : ∀ n L s0 s, n ≤ L.length → lFi L s → yLs L → xF x58 s0 s → ∃ s', xF x58 s0 s' ∧ lFi (yCl x n L) s' ∧ yLs (yCl x n L) ∧ fFl_removeRowsOf_5 (d + 1) (nI x) (zI n) s = rV s' := by
  intro n
  induction n with
  | zero =>
    intro L s0 s hn hl hs h
    refine ⟨s, h, hl, hs, eFl_removeRowsOf_5 d _ _ _ _ ?_⟩
    rw [if_pos (by decide)]
    rfl
  | succ n ih =>
    intro L s0 s hn hl hs h
    have h40 := hs.1
    have e15 : ∀ s, ∀ r, fFl_removeRowsOf_5 (d + 1) (nI x) (zI n) s = some r → fFl_removeRowsOf_15 (d + 1) (nI x) (nI n) s = some r := fun s r hr => by
      refine eFl_removeRowsOf_15 d _ _ _ _ ?_
      rw [nI_m1]
      exact hr
    by_cases hi : yIs (L.getD n yF0) x
    · obtain ⟨s1, p1, p2, p3⟩ := Fl_re hl hs d (k := n) (by omega)
      have hlen : (L.eraseIdx n).length = L.length - 1 := List.length_eraseIdx_of_lt (by omega)
      obtain ⟨s', r1, r2, r3, r4⟩ := ih (L.eraseIdx n) s0 s1 (by omega) p2 (yLs_er hs (by omega)) (xF_t h p1)
      refine ⟨s', r1, ?_, ?_, eFl_removeRowsOf_5 d _ _ _ _ ?_⟩
      · show lFi (yCl x n (if _ then _ else _)) s'
        rw [if_pos hi]; exact r2
      · show yLs (yCl x n (if _ then _ else _))
        rw [if_pos hi]; exact r3
      · rw [zI_S, if_neg (nI_n0 (by omega)), Fl_is hl hs d (by omega) hx, cG_I, if_neg (by rw [if10]; exact fun e => e hi), p3, cG_V]
        exact e15 s1 _ r4
    · obtain ⟨s', r1, r2, r3, r4⟩ := ih L s0 s (by omega) hl hs h
      refine ⟨s', r1, ?_, ?_, eFl_removeRowsOf_5 d _ _ _ _ ?_⟩
      · show lFi (yCl x n (if _ then _ else _)) s'
        rw [if_neg hi]; exact r2
      · show yLs (yCl x n (if _ then _ else _))
        rw [if_neg hi]; exact r3
      · rw [zI_S, if_neg (nI_n0 (by omega)), Fl_is hl hs d (by omega) hx, cG_I, if_pos (by rw [if10]; exact hi)]
        exact e15 s _ r4
theorem Fl_rro (hl : lFi L s) (hs : yLs L) (d : Nat) {x : Nat} (hx : x < 4) : ∃ s', xF x58 s s' ∧ lFi (yCl x L.length L) s' ∧ yLs (yCl x L.length L) ∧ fFl_removeRowsOf (d + 1) (nI x) s = rV s' := by
  obtain ⟨s', r1, r2, r3, r4⟩ := Fl_rr d hx L.length L s s (Nat.le_refl _) hl hs xF_r
  refine ⟨s', r1, r2, r3, eFl_removeRowsOf d _ _ _ ?_⟩
  rw [hl.1]
  exact r4
end
