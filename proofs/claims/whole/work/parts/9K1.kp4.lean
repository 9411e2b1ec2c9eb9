/-! PURE: names and defaults take less than what a text pays -/
section
variable {T : Nat → Nat → Nat} {N : Nat → Int} {m : Nat}
theorem kNa_p4 {rec : kR} (hrec : kRe T N m rec) {q q' : kP} {v k x : Nat} (h : kIv T m q) (hn : q.1 1 + 1 ≤ 6 + q.1 0) (hk : 9 ≤ k ∧ k ≤ 11) (hv : jVb T N m v) (h0 : T 0 v = 0) (he : kNa T N rec v k q = .ok (q', x)) : q'.1 6 + q'.1 7 + 4 ≤ q.1 6 + q.1 7 + 2 * kWv T v := by
  unfold kNa at he
  split at he
  case isFalse => cases he
  rename_i hnm
  split at he
  case isFalse => cases he
  rename_i hna
  have m1 := kMb_ok hv h0 hnm.1
  have hlt1 := jVb_lt m1.1
  have hw1 := kWv_eq (T := T) hlt1.1
  have hnw := kNam_w hna.1
  have hl0 := kLo_nn (k := k) (x := kMb T v (kWs 15) - 1) h hn hk (by omega) hna.1
  have l15 : (kWs 15).length = 4 := rfl
  have c : ∀ j, (kNn T (q.1 1) (kMb T v (kWs 15) - 1) (kSh k q)).1 j = if j = 6 then q.1 6 + 1 + T 2 (kMb T v (kWs 15) - 1) else if j = 1 then q.1 1 + 1 else q.1 j := fun j => rfl
  have r0 := kNn_r (T := T) (k := k) (x := kMb T v (kWs 15) - 1) (q := q) (r := 0) (by omega)
  have r4 := kNn_r (T := T) (k := k) (x := kMb T v (kWs 15) - 1) (q := q) (r := 4) (by omega)
  rw [if_pos rfl] at r0
  rw [if_neg (by omega), if_neg (by omega)] at r4
  generalize kNn T (q.1 1) (kMb T v (kWs 15) - 1) (kSh k q) = qn at *
  have c0 := c 0
  have c2 := c 2
  have c3 := c 3
  have c4 := c 4
  have c5 := c 5
  have c6 := c 6
  have c7 := c 7
  simp at c0 c2 c3 c4 c5 c6 c7
  split at he
  · unfold kFx at he
    split at he
    · cases he
    · rename_i hz
      split at he
      · rename_i hN
        cases he
        have hm3 := kGm_3 hv h0 (W1 := kWs 15) (W2 := kWs 16) (W3 := kWs 12) (by decide) (by decide) (by decide)
        have m2 := kMb_ok hv h0 hz
        have l16 : (kWs 16).length = 4 := rfl
        simp only [kQ8_1]
        omega
      · cases he
  · split at he
    · unfold kEn at he
      split at he
      · cases he
      · rename_i hz
        have m2 := kMb_ok hv h0 hz
        have hm3 := kGm_3 hv h0 (W1 := kWs 15) (W2 := kWs 17) (W3 := kWs 12) (by decide) (by decide) (by decide)
        have l17 : (kWs 17).length = 7 := rfl
        split at he
        · rename_i hL
          split at he
          · cases he
          · rename_i q2 hy
            have hap := kLo_ap (n := T 2 (kMb T v (kWs 17) - 1)) hl0 (by omega) r4 (by omega)
            have hch := jVb_l m2.1 hL.1
            have hyl := kYl_ok _ _ _ _ _ hch hap.1 (by rw [hap.2.1 0 (by omega), r0]; omega) (by rw [hap.2.1 4 (by omega), hap.2.2, r4]; omega) hy
            obtain ⟨i1, i2, i3, i4, i5, i6, i7⟩ := hyl
            have hlt2 := jVb_lt m2.1
            have hw2 := kWv_eq (T := T) hlt2.1
            have hwl : 2 ≤ jWt T (kMb T v (kWs 17) - 1) := jWt_2 _ (by omega)
            have a : ∀ j, (kAp (q.1 1) (T 2 (kMb T v (kWs 17) - 1)) qn).1 j = if j = 3 then qn.1 3 + T 2 (kMb T v (kWs 17) - 1) else qn.1 j := fun j => rfl
            have a0 := a 0
            have a2 := a 2
            have a3 := a 3
            have a4 := a 4
            have a5 := a 5
            have a6 := a 6
            have a7 := a 7
            simp at a0 a2 a3 a4 a5 a6 a7
            have j0 := i2 0 (by omega)
            have j3 := i2 3 (by omega)
            have j4 := i2 4 (by omega)
            have j5 := i2 5 (by omega)
            have j7 := i2 7 (by omega)
            split at he
            · cases he
              omega
            · split at he
              · rename_i hdz hd
                cases he
                have hpt := kFr_1 _ _ hd.2
                have hpl : kPt T q2 (q.1 1) (q2.2.1 4 (q.1 1)) (kMb T v (kWs 18) - 1) ≤ 65 := by
                  unfold kPt
                  rw [hap.2.1 4 (by omega), r4] at i6
                  omega
                simp only [kQ8_1]
                omega
              · cases he
        · cases he
    · unfold kRc at he
      split at he
      · cases he
      · rename_i hz
        have m2 := kMb_ok hv h0 hz
        have hm3 := kGm_3 hv h0 (W1 := kWs 15) (W2 := kWs 19) (W3 := kWs 12) (by decide) (by decide) (by decide)
        have l19 : (kWs 19).length = 6 := rfl
        split at he
        · rename_i hL
          split at he
          · cases he
          · rename_i q2 hy
            cases he
            have hap := kLo_ap (n := T 2 (kMb T v (kWs 19) - 1)) hl0 (by omega) r4 (by omega)
            have hch := jVb_l m2.1 hL.1
            have hyl := kFl_ok hrec _ _ _ _ _ hch hap.1 (by rw [hap.2.1 0 (by omega), r0]; omega) (by rw [hap.2.1 4 (by omega), hap.2.2, r4]; omega) hy
            obtain ⟨i1, i2, i3, i4, i5, i6, i7, i8⟩ := hyl
            have hlt2 := jVb_lt m2.1
            have hw2 := kWv_eq (T := T) hlt2.1
            have hwl : 2 ≤ jWt T (kMb T v (kWs 19) - 1) := jWt_2 _ (by omega)
            have a : ∀ j, (kAp (q.1 1) (T 2 (kMb T v (kWs 19) - 1)) qn).1 j = if j = 3 then qn.1 3 + T 2 (kMb T v (kWs 19) - 1) else qn.1 j := fun j => rfl
            have a0 := a 0
            have a2 := a 2
            have a3 := a 3
            have a4 := a 4
            have a5 := a 5
            have a6 := a 6
            have a7 := a 7
            simp at a0 a2 a3 a4 a5 a6 a7
            omega
        · cases he
theorem kCl_p4 {rec : kR} (hrec : kRe T N m rec) {q q' : kP} {v k x : Nat} (h : kIv T m q) (hn : q.1 1 + 1 ≤ 6 + q.1 0) (hk : k = 6 ∨ k = 7) (hv : jVb T N m v) (h0 : T 0 v = 0) (he : kCl T rec v k q = .ok (q', x)) : q'.1 6 + q'.1 7 + 4 ≤ q.1 6 + q.1 7 + 2 * kWv T v := by
  unfold kCl at he
  split at he
  · cases he
  · rename_i hz
    split at he
    · cases he
    · rename_i q1 y hr
      cases he
      have m1 := kMb_ok hv h0 hz
      have hm3 := kGm_3 hv h0 (W1 := kWs (k + 7)) (W2 := kWs 15) (W3 := kWs 12) (by rcases hk with rfl | rfl <;> decide) (by rcases hk with rfl | rfl <;> decide) (by decide)
      have l : 5 ≤ (kWs (k + 7)).length := by rcases hk with rfl | rfl <;> decide
      have har := kLo_ar (k := k) h hn hk
      have hok := hrec.1 _ _ _ _ _ har.1.1 m1.1 hr
      obtain ⟨o1, o2, o3, o4, o5, o6, o7, o8, o9⟩ := hok
      obtain ⟨hl1, hr1, hx1⟩ := kLo_fm har.1 o1 o2
      have hsi := kLo_si (x := y) hl1 (by rw [hr1 0 (by omega), har.2.1]; exact hk) (by rw [hr1 4 (by omega), har.2.2.1]) o3
      have a : ∀ j, (kAk (q.1 1) (kSh k q)).1 j = if j = 2 then q.1 2 + 1 else if j = 1 then q.1 1 + 1 else q.1 j := fun j => rfl
      have a0 := a 0
      have a2 := a 2
      have a3 := a 3
      have a4 := a 4
      have a5 := a 5
      have a6 := a 6
      have a7 := a 7
      simp at a0 a2 a3 a4 a5 a6 a7
      have o7' : 4 * q1.1 3 + 2 ≤ 4 * (kAk (q.1 1) (kSh k q)).1 3 + kWv T (kMb T v (kWs (k + 7)) - 1) := by
        split at o7 <;> omega
      rw [kSi_1]
      omega
theorem kOb_p4 {rec : kR} (hrec : kRe T N m rec) {q q' : kP} {v x : Nat} (h : kIv T m q) (hn : q.1 1 + 1 ≤ 6 + q.1 0) (hv : jVb T N m v) (h0 : T 0 v = 0) (he : kOb T N rec v q = .ok (q', x)) : q'.1 6 + q'.1 7 + 4 ≤ q.1 6 + q.1 7 + 2 * kWv T v := by
  unfold kOb at he
  split at he
  case isFalse => cases he
  rename_i ht
  split at he
  · exact kCl_p4 hrec h hn (by omega) hv h0 he
  · split at he
    · rename_i h9
      have := kKt_1 (T := T) (v := kMb T v (kWs 12) - 1) (by omega)
      exact kNa_p4 hrec h hn (by omega) hv h0 he
    · have hkn := kKn_ok h he ht.2
      obtain ⟨rfl, hx, hl⟩ := hkn
      have m1 := kMb_ok hv h0 ht.1
      have hm3 := kGm_3 hv h0 (W1 := kWs 12) (W2 := kWs 15) (W3 := kWs 16) (by decide) (by decide) (by decide)
      have l12 : (kWs 12).length = 4 := rfl
      omega
theorem kUn_p4 {rec : kR} (hrec : kRe T N m rec) {q q' : kP} {v x : Nat} (h : kIv T m q) (hn : q.1 1 + 1 ≤ 6 + q.1 0) (hv : jVb T N m v) (h1 : T 0 v = 1) (he : kUn T rec v q = .ok (q', x)) : q'.1 6 + q'.1 7 + 4 ≤ q.1 6 + q.1 7 + 2 * kWv T v := by
  unfold kUn at he
  split at he
  case isFalse => cases he
  rename_i hL
  split at he
  · cases he
  · rename_i q2 hy
    cases he
    have hu := kLo_u0 (n := T 2 v) h hn (by omega)
    have hch := jVb_l hv h1
    have hyl := kUl_ok hrec _ _ _ _ _ hch hu.1 hu.2.1 (by rw [hu.2.2.1, hu.2.2.2]; omega) hy
    obtain ⟨i1, i2, i3, i4, i5, i6, i7, i8⟩ := hyl
    have hlt2 := jVb_lt hv
    have hw2 := kWv_eq (T := T) hlt2.1
    have hwl : 2 ≤ jWt T v := jWt_2 _ (by omega)
    have a : ∀ j, (kAp (q.1 1) (T 2 v) (kSh 8 q)).1 j = if j = 3 then q.1 3 + T 2 v else if j = 1 then q.1 1 + 1 else q.1 j := fun j => rfl
    have a0 := a 0
    have a2 := a 2
    have a3 := a 3
    have a4 := a 4
    have a5 := a 5
    have a6 := a 6
    have a7 := a 7
    simp at a0 a2 a3 a4 a5 a6 a7
    omega
theorem kBd_p4 {rec : kR} (hrec : kRe T N m rec) {q q' : kP} {v x : Nat} {br : Bool} (h : kIv T m q) (hn : q.1 1 + 1 ≤ 6 + q.1 0) (hv : jVb T N m v) (he : kBd T N rec v br q = .ok (q', x)) : q'.1 6 + q'.1 7 + 4 ≤ q.1 6 + q.1 7 + 2 * kWv T v := by
  unfold kBd at he
  split at he
  · rename_i h2
    obtain ⟨rfl, hx, hl⟩ := kKn_ok h he h2
    have hlt2 := jVb_lt hv
    have hw2 := kWv_eq (T := T) hlt2.1
    have hwl : jWt T v = T 2 v + 3 := by
      unfold jWt
      rw [if_pos h2]
    omega
  · split at he
    · rename_i h1
      split at he
      · cases he
      · exact kUn_p4 hrec h hn hv h1 he
    · split at he
      · rename_i h0
        exact kOb_p4 hrec h hn hv h0 he
      · cases he
theorem kSo_p4 {D : Nat} {q q' : kP} {v x : Nat} {br : Bool} (hi : kIv T m q) (hv : jVb T N m v) (h : kSo T N (D + 1) v br q = .ok (q', x)) : q'.1 6 + q'.1 7 + 4 ≤ q.1 6 + q.1 7 + 2 * kWv T v := by
  unfold kSo at h
  split at h
  · rename_i hl
    have hc := kIv_c0 hi hl
    have hb := kBd_p4 (kSo_ok D) hc.1 hc.2.1 hv h
    have e : ∀ k, k ≠ 0 → (kC q 0 (q.1 0 + 1)).1 k = q.1 k := fun k hk => by rw [kC_1, if_neg hk]
    rw [e 6 (by omega), e 7 (by omega)] at hb
    exact hb
  · cases h
end
/-! how long the pool becomes -/
section
variable {T : Nat → Nat → Nat} {N : Nat → Int} {m l n : Nat} {q0 : kP}
theorem kTd_6 (hG : jGt T N m l n) (hI : kIv T m q0) (hcd : kCd q0) (hdn : kDn T q0) (hdk : kDk T N q0 (q0.1 4) 0 = 0) {g z : Nat → Nat} (hw : ∀ i, i < q0.1 4 → kWe T N m q0 i (g i) (z i) (g (i + 1)) (z (i + 1))) : ∀ k i q, i + k = q0.1 4 → (kTd T N q0 k i q).1 6 + z i ≤ q.1 6 + z (q0.1 4)
  | 0, i, q, hi => by
    rw [show i = q0.1 4 by omega]
    exact Nat.le_refl _
  | k + 1, i, q, hi => by
    obtain ⟨s, p, ⟨h6, hs, h11, hp, hx⟩, h15, _, h⟩ := hw i (by omega)
    obtain ⟨⟨a1, a2, a3⟩, ⟨a4, a5, a6⟩, a7, hx1, _⟩ := hI.2.2.2.1 s p h6 hs hp
    unfold kTd
    rw [h15, a6, a4]
    rcases h with ⟨h0, h1, h2⟩ | ⟨h0, h1, h2, h3, h4, h5⟩
    · rw [if_pos h0]
      have := kTd_6 hG hI hcd hdn hdk hw k (i + 1) q (by omega)
      omega
    · rw [if_neg h0]
      have ih := kTd_6 hG hI hcd hdn hdk hw k (i + 1) (kTs T N q0 (q0.2.1 6 (q0.2.1 24 (q0.2.2 0 s p)) + q0.2.1 25 (q0.2.2 0 s p)) (q0.2.2 3 s p - 1) (q0.2.2 1 s p - 1) q) (by omega)
      rw [kTs_6] at ih
      have hft := kDk_at (q0.1 4) 0 hdk i (by omega) (by omega)
      rw [h15, a6, a4] at hft
      have hlen := kWt_len hG hdn hI hcd 24 (Nat.le_refl _) (q0.2.2 3 s p - 1) (q0.2.2 1 s p - 1) (jVb_24 h5) (by omega) (hft h0)
      omega
theorem kVe_6 {x : Nat} (hG : jGt T N m l n) {n1 : Nat} (hg : kGd T N m n1 q0 x) (hdk : kDk T N q0 (q0.1 4) 0 = 0) : (kVe T N q0).1 6 ≤ q0.1 6 + q0.1 7 := by
  obtain ⟨g, z, h0, h1, h2⟩ := hg.2.2.2.1
  have := kTd_6 hG hg.1 hg.2.1 hg.2.2.1 hdk h2 (q0.1 4) 0 q0 (by omega)
  unfold kVe
  omega
end
