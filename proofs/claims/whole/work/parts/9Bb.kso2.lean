/-! PURE: the schema of a value -/
section
variable {T : Nat → Nat → Nat} {N : Nat → Int} {m : Nat}
theorem kWs_len {k : Nat} (h : k < 6) : 0 < (kWs k).length := by
  have : k = 0 ∨ k = 1 ∨ k = 2 ∨ k = 3 ∨ k = 4 ∨ k = 5 := by omega
  rcases this with rfl | rfl | rfl | rfl | rfl | rfl <;> decide
theorem kDf_ok {q : kP} {v : Nat} (h : kIv T m q) (hn : kDf T q v ≠ 0) : 6 < kDf T q v ∧ kDf T q v ≤ q.1 1 ∧ 9 ≤ q.2.1 0 (kDf T q v - 1) ∧ jSm T (q.2.1 1 (kDf T q v - 1) - 1) v = true ∧ q.2.1 1 (kDf T q v - 1) ≠ 0 := by
  have ha := h.1
  have := kFr_1 _ _ hn
  unfold kDf at hn ⊢
  have h1 := kFr_1 _ _ hn
  have hb : kFr (fun s => !(q.2.1 1 s == 0) && jSm T (q.2.1 1 s - 1) v) (q.1 1 - 6) 6 ≤ q.1 1 := by omega
  have h3 := h1.2.2
  simp only [Bool.and_eq_true, Bool.not_eq_true', beq_eq_false_iff_ne] at h3
  have hI := h.2.2.1 _ (show 6 ≤ kFr (fun s => !(q.2.1 1 s == 0) && jSm T (q.2.1 1 s - 1) v) (q.1 1 - 6) 6 - 1 by omega) (by omega)
  refine ⟨h1.1, hb, ?_, h3.2, h3.1⟩
  rcases hI.2.1 with g | g
  · exact absurd g.2 h3.1
  · exact g.1
theorem kKn_ok {q q' : kP} {v x : Nat} (h : kIv T m q) (hk : kKn T v q = .ok (q', x)) (h2 : T 0 v = 2) : q' = q ∧ x < q.1 1 ∧ 0 < T 2 v := by
  have ha := h.1
  unfold kKn at hk
  split at hk
  · rename_i hw
    cases hk
    have h1 := kFr_1 _ _ hw
    have hs := jTw_w h1.2.2
    have := kWs_len (k := kWd T v - 1) (by unfold kWd; omega)
    unfold kWd at this ⊢
    exact ⟨rfl, by omega, by omega⟩
  · split at hk
    · rename_i hd
      cases hk
      have h1 := kDf_ok h hd
      have hs := h1.2.2.2.1
      unfold jSm at hs
      simp only [decide_eq_true_eq] at hs
      have hI := h.2.2.1 (kDf T q v - 1) (by omega) (by omega)
      rcases hI.2.1 with g | g
      · omega
      · have := kNam_w g.2.2.2.1
        exact ⟨rfl, by omega, by omega⟩
    · cases hk
theorem kQ8_1 (q : kP) (s v j : Nat) : (kQ q 8 s v).1 j = q.1 j := rfl
/-- what a new schema of an object leaves -/
theorem kOk_of {q q' : kP} {s v : Nat} (hl : kLo T m q s q') (hv : T 0 v = 0) (h2 : 2 * q'.1 2 + 2 ≤ 2 * q.1 2 + kWv T v) (h3 : 4 * q'.1 3 + 4 ≤ 4 * q.1 3 + kWv T v) (h3' : 2 * q'.1 3 + 2 ≤ 2 * q.1 3 + kWv T v) (h6 : q'.1 6 + q'.1 7 + 2 ≤ q.1 6 + q.1 7 + 2 * kWv T v) (h4 : q'.1 4 + q.1 0 ≤ q.1 4 + q'.1 0) (h5 : q'.1 5 + q.1 4 ≤ q.1 5 + q'.1 4) : kOk T m 0 q v q' s :=
  ⟨hl.1, hl.2.1, hl.2.2.1.2.2, h2, h3', h6, by rw [if_neg (by omega)]; exact h3, by omega, h5⟩
theorem kNa_ok {rec : kR} (hrec : kRe T N m rec) {q q' : kP} {v k x : Nat} (h : kIv T m q) (hn : q.1 1 + 1 ≤ 6 + q.1 0) (hk : 9 ≤ k ∧ k ≤ 11) (hv : jVb T N m v) (h0 : T 0 v = 0) (he : kNa T N rec v k q = .ok (q', x)) : kOk T m 0 q v q' x := by
  unfold kNa at he
  split at he
  case isFalse => cases he
  rename_i hnm
  split at he
  case isFalse => cases he
  rename_i hna
  have m1 := kMb_ok hv h0 hnm.1
  have hlt1 := jVb_lt m1.1
  have hw1 := kWv_eq (T := T) hlt1.1
  have hnw := kNam_w hna.1
  have hl0 := kLo_nn (k := k) (x := kMb T v (kWs 15) - 1) h hn hk (by omega) hna.1
  have l15 : (kWs 15).length = 4 := rfl
  have c : ∀ j, (kNn T (q.1 1) (kMb T v (kWs 15) - 1) (kSh k q)).1 j = if j = 6 then q.1 6 + 1 + T 2 (kMb T v (kWs 15) - 1) else if j = 1 then q.1 1 + 1 else q.1 j := fun j => rfl
  have r0 := kNn_r (T := T) (k := k) (x := kMb T v (kWs 15) - 1) (q := q) (r := 0) (by omega)
  have r4 := kNn_r (T := T) (k := k) (x := kMb T v (kWs 15) - 1) (q := q) (r := 4) (by omega)
  rw [if_pos rfl] at r0
  rw [if_neg (by omega), if_neg (by omega)] at r4
  generalize kNn T (q.1 1) (kMb T v (kWs 15) - 1) (kSh k q) = qn at *
  have c0 := c 0
  have c2 := c 2
  have c3 := c 3
  have c4 := c 4
  have c5 := c 5
  have c6 := c 6
  have c7 := c 7
  simp at c0 c2 c3 c4 c5 c6 c7
  split at he
  · unfold kFx at he
    split at he
    · cases he
    · rename_i hz
      split at he
      · rename_i hN
        cases he
        have hm3 := kGm_3 hv h0 (W1 := kWs 15) (W2 := kWs 16) (W3 := kWs 12) (by decide) (by decide) (by decide)
        have m2 := kMb_ok hv h0 hz
        have l16 : (kWs 16).length = 4 := rfl
        refine kOk_of (kLo_8 hl0 (by omega)) h0 ?_ ?_ ?_ ?_ ?_ ?_
        all_goals (simp only [kQ8_1]; omega)
      · cases he
  · split at he
    · unfold kEn at he
      split at he
      · cases he
      · rename_i hz
        have m2 := kMb_ok hv h0 hz
        have hm3 := kGm_3 hv h0 (W1 := kWs 15) (W2 := kWs 17) (W3 := kWs 12) (by decide) (by decide) (by decide)
        have l17 : (kWs 17).length = 7 := rfl
        split at he
        · rename_i hL
          split at he
          · cases he
          · rename_i q2 hy
            have hap := kLo_ap (n := T 2 (kMb T v (kWs 17) - 1)) hl0 (by omega) r4 (by omega)
            have hch := jVb_l m2.1 hL.1
            have hyl := kYl_ok _ _ _ _ _ hch hap.1 (by rw [hap.2.1 0 (by omega), r0]; omega) (by rw [hap.2.1 4 (by omega), hap.2.2, r4]; omega) hy
            obtain ⟨i1, i2, i3, i4, i5, i6, i7⟩ := hyl
            have hlt2 := jVb_lt m2.1
            have hw2 := kWv_eq (T := T) hlt2.1
            have hwl : 2 ≤ jWt T (kMb T v (kWs 17) - 1) := jWt_2 _ (by omega)
            have a : ∀ j, (kAp (q.1 1) (T 2 (kMb T v (kWs 17) - 1)) qn).1 j = if j = 3 then qn.1 3 + T 2 (kMb T v (kWs 17) - 1) else qn.1 j := fun j => rfl
            have a0 := a 0
            have a2 := a 2
            have a3 := a 3
            have a4 := a 4
            have a5 := a 5
            have a6 := a 6
            have a7 := a 7
            simp at a0 a2 a3 a4 a5 a6 a7
            have j0 := i2 0 (by omega)
            have j3 := i2 3 (by omega)
            have j4 := i2 4 (by omega)
            have j5 := i2 5 (by omega)
            have j7 := i2 7 (by omega)
            split at he
            · cases he
              exact kOk_of i1 h0 (by omega) (by omega) (by omega) (by omega) (by omega) (by omega)
            · split at he
              · rename_i hdz hd
                cases he
                have hpt := kFr_1 _ _ hd.2
                have hpl : kPt T q2 (q.1 1) (q2.2.1 4 (q.1 1)) (kMb T v (kWs 18) - 1) ≤ 65 := by
                  unfold kPt
                  rw [hap.2.1 4 (by omega), r4] at i6
                  omega
                refine kOk_of (kLo_8 i1 hpl) h0 ?_ ?_ ?_ ?_ ?_ ?_
                all_goals (simp only [kQ8_1]; omega)
              · cases he
        · cases he
    · unfold kRc at he
      split at he
      · cases he
      · rename_i hz
        have m2 := kMb_ok hv h0 hz
        have hm3 := kGm_3 hv h0 (W1 := kWs 15) (W2 := kWs 19) (W3 := kWs 12) (by decide) (by decide) (by decide)
        have l19 : (kWs 19).length = 6 := rfl
        split at he
        · rename_i hL
          split at he
          · cases he
          · rename_i q2 hy
            cases he
            have hap := kLo_ap (n := T 2 (kMb T v (kWs 19) - 1)) hl0 (by omega) r4 (by omega)
            have hch := jVb_l m2.1 hL.1
            have hyl := kFl_ok hrec _ _ _ _ _ hch hap.1 (by rw [hap.2.1 0 (by omega), r0]; omega) (by rw [hap.2.1 4 (by omega), hap.2.2, r4]; omega) hy
            obtain ⟨i1, i2, i3, i4, i5, i6, i7, i8⟩ := hyl
            have hlt2 := jVb_lt m2.1
            have hw2 := kWv_eq (T := T) hlt2.1
            have hwl : 2 ≤ jWt T (kMb T v (kWs 19) - 1) := jWt_2 _ (by omega)
            have a : ∀ j, (kAp (q.1 1) (T 2 (kMb T v (kWs 19) - 1)) qn).1 j = if j = 3 then qn.1 3 + T 2 (kMb T v (kWs 19) - 1) else qn.1 j := fun j => rfl
            have a0 := a 0
            have a2 := a 2
            have a3 := a 3
            have a4 := a 4
            have a5 := a 5
            have a6 := a 6
            have a7 := a 7
            simp at a0 a2 a3 a4 a5 a6 a7
            exact kOk_of i1 h0 (by omega) (by omega) (by omega) (by omega) (by omega) (by omega)
        · cases he
theorem kCl_ok {rec : kR} (hrec : kRe T N m rec) {q q' : kP} {v k x : Nat} (h : kIv T m q) (hn : q.1 1 + 1 ≤ 6 + q.1 0) (hk : k = 6 ∨ k = 7) (hv : jVb T N m v) (h0 : T 0 v = 0) (he : kCl T rec v k q = .ok (q', x)) : kOk T m 0 q v q' x := by
  unfold kCl at he
  split at he
  · cases he
  · rename_i hz
    split at he
    · cases he
    · rename_i q1 y hr
      cases he
      have m1 := kMb_ok hv h0 hz
      have hm3 := kGm_3 hv h0 (W1 := kWs (k + 7)) (W2 := kWs 15) (W3 := kWs 12) (by rcases hk with rfl | rfl <;> decide) (by rcases hk with rfl | rfl <;> decide) (by decide)
      have l : 5 ≤ (kWs (k + 7)).length := by rcases hk with rfl | rfl <;> decide
      have har := kLo_ar (k := k) h hn hk
      have hok := hrec.1 _ _ _ _ _ har.1.1 m1.1 hr
      obtain ⟨o1, o2, o3, o4, o5, o6, o7, o8, o9⟩ := hok
      obtain ⟨hl1, hr1, hx1⟩ := kLo_fm har.1 o1 o2
      have hsi := kLo_si (x := y) hl1 (by rw [hr1 0 (by omega), har.2.1]; exact hk) (by rw [hr1 4 (by omega), har.2.2.1]) o3
      have a : ∀ j, (kAk (q.1 1) (kSh k q)).1 j = if j = 2 then q.1 2 + 1 else if j = 1 then q.1 1 + 1 else q.1 j := fun j => rfl
      have a0 := a 0
      have a2 := a 2
      have a3 := a 3
      have a4 := a 4
      have a5 := a 5
      have a6 := a 6
      have a7 := a 7
      simp at a0 a2 a3 a4 a5 a6 a7
      have o7' : 4 * q1.1 3 + 2 ≤ 4 * (kAk (q.1 1) (kSh k q)).1 3 + kWv T (kMb T v (kWs (k + 7)) - 1) := by
        split at o7 <;> omega
      refine kOk_of hsi h0 ?_ ?_ ?_ ?_ ?_ ?_
      all_goals (rw [kSi_1]; omega)
theorem kKt_1 {v : Nat} (h : kKt T v ≠ 0) : kKt T v ≤ 12 ∧ kKt T v ≠ 9 ∧ jTw T v (kWs (kKt T v - 1)) = true := by
  unfold kKt at h ⊢
  have h1 := kFr_1 _ _ h
  have h3 := h1.2.2
  simp only [Bool.and_eq_true, Bool.not_eq_true', beq_eq_false_iff_ne] at h3
  exact ⟨by omega, by omega, h3.2⟩
theorem kOb_ok {rec : kR} (hrec : kRe T N m rec) {q q' : kP} {v x : Nat} (h : kIv T m q) (hn : q.1 1 + 1 ≤ 6 + q.1 0) (hv : jVb T N m v) (h0 : T 0 v = 0) (he : kOb T N rec v q = .ok (q', x)) : kOk T m 0 q v q' x := by
  unfold kOb at he
  split at he
  case isFalse => cases he
  rename_i ht
  split at he
  · exact kCl_ok hrec h hn (by omega) hv h0 he
  · split at he
    · rename_i h9
      have := kKt_1 (T := T) (v := kMb T v (kWs 12) - 1) (by omega)
      exact kNa_ok hrec h hn (by omega) hv h0 he
    · have hkn := kKn_ok h he ht.2
      obtain ⟨rfl, hx, hl⟩ := hkn
      have m1 := kMb_ok hv h0 ht.1
      have hm3 := kGm_3 hv h0 (W1 := kWs 12) (W2 := kWs 15) (W3 := kWs 16) (by decide) (by decide) (by decide)
      have l12 : (kWs 12).length = 4 := rfl
      exact ⟨h, kFm_refl _, hx, by omega, by omega, by omega, by rw [if_neg (by omega)]; omega, by omega, by omega⟩
theorem kUn_ok {rec : kR} (hrec : kRe T N m rec) {q q' : kP} {v x : Nat} (h : kIv T m q) (hn : q.1 1 + 1 ≤ 6 + q.1 0) (hv : jVb T N m v) (h1 : T 0 v = 1) (he : kUn T rec v q = .ok (q', x)) : kOk T m 0 q v q' x := by
  unfold kUn at he
  split at he
  case isFalse => cases he
  rename_i hL
  split at he
  · cases he
  · rename_i q2 hy
    cases he
    have hu := kLo_u0 (n := T 2 v) h hn (by omega)
    have hch := jVb_l hv h1
    have hyl := kUl_ok hrec _ _ _ _ _ hch hu.1 hu.2.1 (by rw [hu.2.2.1, hu.2.2.2]; omega) hy
    obtain ⟨i1, i2, i3, i4, i5, i6, i7, i8⟩ := hyl
    have hlt2 := jVb_lt hv
    have hw2 := kWv_eq (T := T) hlt2.1
    have hwl : 2 ≤ jWt T v := jWt_2 _ (by omega)
    have a : ∀ j, (kAp (q.1 1) (T 2 v) (kSh 8 q)).1 j = if j = 3 then q.1 3 + T 2 v else if j = 1 then q.1 1 + 1 else q.1 j := fun j => rfl
    have a0 := a 0
    have a2 := a 2
    have a3 := a 3
    have a4 := a 4
    have a5 := a 5
    have a6 := a 6
    have a7 := a 7
    simp at a0 a2 a3 a4 a5 a6 a7
    exact ⟨i1.1, i1.2.1, i1.2.2.1.2.2, by omega, by omega, by omega, by rw [if_pos h1]; omega, by omega, by omega⟩
theorem kBd_ok {rec : kR} (hrec : kRe T N m rec) {q q' : kP} {v x : Nat} {br : Bool} (h : kIv T m q) (hn : q.1 1 + 1 ≤ 6 + q.1 0) (hv : jVb T N m v) (he : kBd T N rec v br q = .ok (q', x)) : kOk T m 0 q v q' x := by
  unfold kBd at he
  split at he
  · rename_i h2
    obtain ⟨rfl, hx, hl⟩ := kKn_ok h he h2
    have hlt2 := jVb_lt hv
    have hw2 := kWv_eq (T := T) hlt2.1
    have hwl : jWt T v = T 2 v + 3 := by
      unfold jWt
      rw [if_pos h2]
    exact ⟨h, kFm_refl _, hx, by omega, by omega, by omega, by rw [if_neg (by omega)]; omega, by omega, by omega⟩
  · split at he
    · rename_i h1
      split at he
      · cases he
      · exact kUn_ok hrec h hn hv h1 he
    · split at he
      · rename_i h0
        exact kOb_ok hrec h hn hv h0 he
      · cases he
theorem kIv_c0 {q : kP} (h : kIv T m q) (hl : q.1 0 < 128) : kIv T m (kC q 0 (q.1 0 + 1)) ∧ (kC q 0 (q.1 0 + 1)).1 1 + 1 ≤ 6 + (kC q 0 (q.1 0 + 1)).1 0 ∧ kFm q (kC q 0 (q.1 0 + 1)) := by
  have ha := h.1
  have e0 : (kC q 0 (q.1 0 + 1)).1 0 = q.1 0 + 1 := rfl
  have e1 : (kC q 0 (q.1 0 + 1)).1 1 = q.1 1 := rfl
  refine ⟨⟨⟨by omega, by omega, by omega⟩, h.2.1, ?_, ?_, ?_⟩, by omega, ⟨fun k _ => ?_, fun _ _ _ => rfl, fun _ _ _ _ => rfl⟩⟩
  · intro s a b; exact h.2.2.1 s a b
  · intro s i a b c; exact h.2.2.2.1 s i a b c
  · intro s i a b c; exact h.2.2.2.2 s i a b c
  · rw [kC_1]
    split
    · rename_i e; subst e; omega
    · exact Nat.le_refl _
theorem kSo_ok : ∀ D, kRe T N m (kSo T N D) := by
  intro D
  induction D with
  | zero =>
    refine ⟨?_, ?_⟩
    · intro v br q q' x _ _ h
      unfold kSo at h
      split at h <;> cases h
    · intro v q r h
      unfold kSo at h
      split at h <;> cases h
  | succ D ih =>
    refine ⟨?_, ?_⟩
    · intro v br q q' x hi hv h
      unfold kSo at h
      split at h
      · rename_i hl
        have hc := kIv_c0 hi hl
        have hb := kBd_ok ih hc.1 hc.2.1 hv h
        obtain ⟨o1, o2, o3, o4, o5, o6, o7, o8, o9⟩ := hb
        have e : ∀ k, k ≠ 0 → (kC q 0 (q.1 0 + 1)).1 k = q.1 k := fun k hk => by rw [kC_1, if_neg hk]
        rw [e 2 (by omega)] at o4
        rw [e 3 (by omega)] at o5 o7
        rw [e 6 (by omega), e 7 (by omega)] at o6
        rw [e 4 (by omega)] at o8 o9
        rw [e 5 (by omega)] at o9
        have e0 : (kC q 0 (q.1 0 + 1)).1 0 = q.1 0 + 1 := rfl
        rw [e0] at o8
        exact ⟨o1, kFm_tr hc.2.2 o2, o3, o4, o5, o6, o7, by omega, o9⟩
      · cases h
    · intro v q r h
      unfold kSo at h
      split at h
      · unfold kBd at h
        split at h
        · omega
        · split at h
          · cases h
          · assumption
      · cases h
theorem kIv_0 : kIv T m kP0 := by
  refine ⟨⟨by decide, by decide, by decide⟩, fun s hs => ⟨rfl, rfl, rfl, rfl⟩, ?_, ?_, ?_⟩
  · intro s a b
    have : kP0.1 1 = 6 := rfl
    omega
  · intro s i a b
    have : kP0.1 1 = 6 := rfl
    omega
  · intro s i a b
    have : kP0.1 1 = 6 := rfl
    omega
end
