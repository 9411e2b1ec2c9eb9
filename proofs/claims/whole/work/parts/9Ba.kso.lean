/-! PURE: the reading of a schema keeps what it found, and pays for what it adds -/
section
variable {T : Nat → Nat → Nat} {N : Nat → Int} {m : Nat}
theorem kNn_r {k x r : Nat} {q : kP} (h : r = 0 ∨ r = 4 ∨ r = 6 ∨ r = 7) : (kNn T (q.1 1) x (kSh k q)).2.1 r (q.1 1) = if r = 0 then k else if r = 6 then q.1 3 else 0 := by
  unfold kNn
  rw [kQ_Q, kQ_Q, if_neg (by omega), if_neg (by omega), kPn_Q, if_neg (by omega), if_neg (by omega), kSh_Q, if_pos rfl]
  rcases h with rfl | rfl | rfl | rfl
  · rw [if_pos rfl, if_pos rfl]
  · rw [if_neg (by omega), if_pos (by omega), if_neg (by omega), if_neg (by omega)]
  · rw [if_neg (by omega), if_neg (by omega), if_pos rfl, if_neg (by omega), if_pos rfl]
  · rw [if_neg (by omega), if_pos (by omega), if_neg (by omega), if_neg (by omega)]
theorem kLo_nn {k x : Nat} {q : kP} (h : kIv T m q) (hn : q.1 1 + 1 ≤ 6 + q.1 0) (hk : 9 ≤ k ∧ k ≤ 11) (hx : x < m) (hnam : kNam T x = true) : kLo T m q (q.1 1) (kNn T (q.1 1) x (kSh k q)) := by
  have h1 := kIv_nn h hn hk hx hnam
  have h4 := kNn_r (T := T) (k := k) (x := x) (q := q) (r := 4) (by omega)
  have h6 := kNn_r (T := T) (k := k) (x := x) (q := q) (r := 6) (by omega)
  rw [if_neg (by omega), if_neg (by omega)] at h4
  rw [if_neg (by omega), if_pos rfl] at h6
  refine ⟨h1.1, h1.2, ⟨Nat.le_refl _, h.1.1, Nat.lt_succ_self _⟩, fun i hi => ?_, ?_⟩
  · rw [h4] at hi; omega
  · rw [h6]; exact Nat.le_refl _
theorem kLo_ap {n s : Nat} {q0 q : kP} (h : kLo T m q0 s q) (h9 : 9 ≤ q.2.1 0 s) (h4 : q.2.1 4 s = 0) (h32 : n ≤ 32) : kLo T m q0 s (kAp s n q) ∧ (∀ r, r = 0 ∨ r = 4 → (kAp s n q).2.1 r s = q.2.1 r s) ∧ (kAp s n q).2.1 7 s = n := by
  obtain ⟨h1, h2, ⟨h3, h3', h5⟩, h6, h7⟩ := h
  have hv := kIv_ap h1 h2 h3 h3' h5 h9 h4 h32
  have hr : ∀ r, r = 0 ∨ r = 4 → (kAp s n q).2.1 r s = q.2.1 r s := fun r hr => by
    rw [kAp_Q]; repeat' rw [if_neg (by omega)]
  have f3 := h2.1 3 (by omega)
  refine ⟨⟨hv.1, hv.2, ⟨h3, h3', h5⟩, fun i hi => ?_, ?_⟩, hr, ?_⟩
  · rw [hr 4 (by omega), h4] at hi; omega
  · rw [kAp_Q, if_pos ⟨rfl, rfl⟩]; exact f3
  · rw [kAp_Q, if_neg (by omega), if_pos ⟨rfl, rfl⟩]
theorem kLo_u0 {n : Nat} {q : kP} (h : kIv T m q) (hn : q.1 1 + 1 ≤ 6 + q.1 0) (h32 : n ≤ 32) : kLo T m q (q.1 1) (kAp (q.1 1) n (kSh 8 q)) ∧ (kAp (q.1 1) n (kSh 8 q)).2.1 0 (q.1 1) = 8 ∧ (kAp (q.1 1) n (kSh 8 q)).2.1 4 (q.1 1) = 0 ∧ (kAp (q.1 1) n (kSh 8 q)).2.1 7 (q.1 1) = n := by
  have h1 := kIv_un h hn h32
  have r0 : (kAp (q.1 1) n (kSh 8 q)).2.1 0 (q.1 1) = 8 := by
    rw [kAp_Q]; repeat' rw [if_neg (by omega)]
    rw [kSh_Q, if_pos rfl, if_pos rfl]
  have r4 : (kAp (q.1 1) n (kSh 8 q)).2.1 4 (q.1 1) = 0 := by
    rw [kAp_Q]; repeat' rw [if_neg (by omega)]
    rw [kSh_Q, if_pos rfl, if_neg (by omega), if_pos (by omega)]
  refine ⟨⟨h1.1, h1.2, ⟨Nat.le_refl _, h.1.1, Nat.lt_succ_self _⟩, fun i hi => ?_, ?_⟩, r0, r4, ?_⟩
  · rw [r4] at hi; omega
  · rw [kAp_Q, if_pos ⟨rfl, rfl⟩]; exact Nat.le_refl _
  · rw [kAp_Q, if_neg (by omega), if_pos ⟨rfl, rfl⟩]
/-- what a reading leaves -/
def kOk (T : Nat → Nat → Nat) (m j : Nat) (q : kP) (v : Nat) (q' : kP) (x : Nat) : Prop := kIv T m q' ∧ kFm q q' ∧ x < q'.1 1 ∧ 2 * q'.1 2 + 2 ≤ 2 * q.1 2 + kWv T v ∧ 2 * q'.1 3 + 2 ≤ 2 * q.1 3 + kWv T v ∧ q'.1 6 + q'.1 7 + 2 ≤ q.1 6 + q.1 7 + 2 * kWv T v ∧ (4 * q'.1 3 + (if T 0 v = 1 then 2 else 4) ≤ 4 * q.1 3 + kWv T v) ∧ q'.1 4 + j + q.1 0 ≤ q.1 4 + q'.1 0 ∧ q'.1 5 + q.1 4 ≤ q.1 5 + q'.1 4
/-- what such a reading may be -/
def kRe (T : Nat → Nat → Nat) (N : Nat → Int) (m : Nat) (rec : kR) : Prop := (∀ v br q q' x, kIv T m q → jVb T N m v → rec v br q = .ok (q', x) → kOk T m 1 q v q' x) ∧ ∀ v q r, rec v true q = .ok r → T 0 v ≠ 1
theorem kNam_w {v : Nat} (h : kNam T v = true) : T 0 v = 2 ∧ 0 < T 2 v ∧ T 2 v < 33 ∧ jWt T v = T 2 v + 3 := by
  unfold kNam at h
  simp only [decide_eq_true_eq] at h
  refine ⟨h.1, h.2.1, h.2.2.1, ?_⟩
  unfold jWt
  rw [if_pos h.1]
theorem kSs_c {s i x k : Nat} {q : kP} : (kSs s i x (kAk s q)).1 k = if k = 2 then q.1 2 + 1 else q.1 k := rfl
theorem kUl_ok {rec : kR} (hrec : kRe T N m rec) {q0 : kP} {s e : Nat} : ∀ k lo cur q q', jTl T (jVe T N m) k lo e cur → kLo T m q0 s q → q.2.1 0 s = 8 → q.2.1 4 s + k ≤ q.2.1 7 s → kUl T rec s k cur q = .ok q' → kLo T m q0 s q' ∧ q.1 1 ≤ q'.1 1 ∧ (2 * q'.1 2 + jSw T lo ≤ 2 * q.1 2 + jSw T e) ∧ (2 * q'.1 3 + 2 * k + jSw T lo ≤ 2 * q.1 3 + jSw T e) ∧ (q'.1 6 + q'.1 7 + 2 * k + 2 * jSw T lo ≤ q.1 6 + q.1 7 + 2 * jSw T e) ∧ (4 * q'.1 3 + 4 * k + jSw T lo ≤ 4 * q.1 3 + jSw T e) ∧ q'.1 4 + q.1 0 ≤ q.1 4 + q'.1 0 ∧ q'.1 5 + q.1 4 ≤ q.1 5 + q'.1 4 := by
  intro k
  induction k with
  | zero =>
    intro lo cur q q' hc hl _ _ h
    cases h
    have : lo = e := hc.2
    subst this
    exact ⟨hl, Nat.le_refl _, Nat.le_refl _, Nat.le_refl _, Nat.le_refl _, Nat.le_refl _, by omega, by omega⟩
  | succ k ih =>
    intro lo cur q q' hc hl h8 h7 h
    obtain ⟨hcur, e1, hP, hc⟩ := hc
    subst hcur
    unfold kUl at h
    rw [Nat.add_sub_cancel] at h
    split at h
    · cases h
    · rename_i q1 x hr
      have hok := hrec.1 _ _ _ _ _ hl.1 hP.1 hr
      have hbr := hrec.2 _ _ _ hr
      obtain ⟨o1, o2, o3, o4, o5, o6, o7, o8, o9⟩ := hok
      rw [if_neg hbr] at o7
      obtain ⟨hl1, hr1, hx1⟩ := kLo_fm hl o1 o2
      have hw := kWv_eq (T := T) (v := lo) (jVb_lt hP.1).1
      rw [← hP.2] at hw
      split at h
      · have e4 := hr1 4 (by omega)
        have hun := kLo_un (x := x) hl1 (by rw [hr1 0 (by omega)]; exact h8) (by rw [e4, hr1 7 (by omega)]; omega) o3
        have ih := ih e1 _ _ _ hc hun.1 (by rw [hun.2.2 0 (by omega) (by omega), hr1 0 (by omega)]; exact h8) (by rw [hun.2.1, hun.2.2 7 (by omega) (by omega), e4, hr1 7 (by omega)]; omega) h
        simp only [kSs_c] at ih
        obtain ⟨i1, i2, i3, i4, i5, i6, i7, i8⟩ := ih
        have := o2.1 1 (by omega)
        simp at i2 i3 i4 i5 i6 i7 i8
        exact ⟨i1, by omega, by omega, by omega, by omega, by omega, by omega, by omega⟩
      · cases h
theorem kYl_ok {q0 : kP} {s e : Nat} : ∀ k lo cur q q', jTl T (jVe T N m) k lo e cur → kLo T m q0 s q → 10 ≤ q.2.1 0 s → q.2.1 4 s + k ≤ q.2.1 7 s → kYl T s k cur q = .ok q' → kLo T m q0 s q' ∧ (∀ j, j = 0 ∨ j = 1 ∨ j = 3 ∨ j = 4 ∨ j = 5 ∨ j = 7 → q'.1 j = q.1 j) ∧ q'.1 2 = q.1 2 + k ∧ (q'.1 6 + 2 * k + jSw T lo ≤ q.1 6 + jSw T e) ∧ 4 * k + jSw T lo ≤ jSw T e ∧ q'.2.1 4 s = q.2.1 4 s + k ∧ q'.2.1 0 s = q.2.1 0 s := by
  intro k
  induction k with
  | zero =>
    intro lo cur q q' hc hl _ _ h
    cases h
    have : lo = e := hc.2
    subst this
    exact ⟨hl, fun _ _ => rfl, rfl, Nat.le_refl _, by omega, rfl, rfl⟩
  | succ k ih =>
    intro lo cur q q' hc hl h8 h7 h
    obtain ⟨hcur, e1, hP, hc⟩ := hc
    subst hcur
    unfold kYl at h
    rw [Nat.add_sub_cancel] at h
    have hlt := jVb_lt hP.1
    have hw := kWv_eq (T := T) (v := lo) hlt.1
    rw [← hP.2] at hw
    split at h
    · rename_i hn
      have hnw := kNam_w hn.1
      have hsy := (kLo_sy (dv := 0) hl h8 (by omega) (show lo < m by omega) hn.1 (by omega)).1
      have ih := ih e1 _ _ _ hc hsy.1 (by rw [hsy.2.2 0 (by omega) (by omega)]; exact h8) (by rw [hsy.2.1, hsy.2.2 7 (by omega) (by omega)]; omega) h
      obtain ⟨i1, i2, i3, i4, i5, i6, i7⟩ := ih
      have c : ∀ j, (kSn T s (q.2.1 4 s) lo (kAk s q)).1 j = if j = 6 then q.1 6 + 1 + T 2 lo else if j = 2 then q.1 2 + 1 else q.1 j := fun j => rfl
      refine ⟨i1, fun j hj => ?_, ?_, ?_, ?_, ?_, ?_⟩
      · rw [i2 j hj, c, if_neg (by omega), if_neg (by omega)]
      · rw [i3, c, if_neg (by omega), if_pos rfl]; omega
      · rw [c, if_pos rfl] at i4; omega
      · omega
      · rw [i6, hsy.2.1]; omega
      · rw [i7, hsy.2.2 0 (by omega) (by omega)]
    · cases h
theorem kFl_ok {rec : kR} (hrec : kRe T N m rec) {q0 : kP} {s e : Nat} : ∀ k lo cur q q', jTl T (jVe T N m) k lo e cur → kLo T m q0 s q → q.2.1 0 s = 11 → q.2.1 4 s + k ≤ q.2.1 7 s → kFl T rec s k cur q = .ok q' → kLo T m q0 s q' ∧ q.1 1 ≤ q'.1 1 ∧ (2 * q'.1 2 + jSw T lo ≤ 2 * q.1 2 + jSw T e) ∧ (2 * q'.1 3 + 2 * k + jSw T lo ≤ 2 * q.1 3 + jSw T e) ∧ (q'.1 6 + q'.1 7 + 2 * k + 2 * jSw T lo ≤ q.1 6 + q.1 7 + 2 * jSw T e) ∧ (4 * q'.1 3 + 4 * k + jSw T lo ≤ 4 * q.1 3 + jSw T e) ∧ q'.1 4 + q.1 0 ≤ q.1 4 + q'.1 0 ∧ q'.1 5 + q.1 4 ≤ q.1 5 + q'.1 4 := by
  intro k
  induction k with
  | zero =>
    intro lo cur q q' hc hl _ _ h
    cases h
    have : lo = e := hc.2
    subst this
    exact ⟨hl, Nat.le_refl _, Nat.le_refl _, Nat.le_refl _, Nat.le_refl _, Nat.le_refl _, by omega, by omega⟩
  | succ k ih =>
    intro lo cur q q' hc hl h8 h7 h
    obtain ⟨hcur, e1, hP, hc⟩ := hc
    subst hcur
    unfold kFl at h
    rw [Nat.add_sub_cancel] at h
    split at h
    case isFalse => cases h
    rename_i h0
    split at h
    case isFalse => cases h
    rename_i hnm
    split at h
    case isFalse => cases h
    rename_i hn
    split at h
    case isFalse => cases h
    rename_i hty
    split at h
    · cases h
    · rename_i q1 x hr
      have hlt := jVb_lt hP.1
      have hw := kWv_eq (T := T) (v := lo) hlt.1
      rw [← hP.2] at hw
      have m1 := kMb_ok hP.1 h0 hnm.1
      have m2 := kMb_ok hP.1 h0 hty
      have hm3 := kGm_3 hP.1 h0 (W1 := kWs 15) (W2 := kWs 12) (W3 := kWs 18) (by decide) (by decide) (by decide)
      have hnw := kNam_w hn.1
      have hd : kMb T lo (kWs 18) = 0 ∧ True ∨ kMb T lo (kWs 18) ≠ 0 ∧ kGm T lo (kWs 18) = 10 + kWv T (kMb T lo (kWs 18) - 1) := by
        by_cases hz : kMb T lo (kWs 18) = 0
        · exact .inl ⟨hz, trivial⟩
        · exact .inr ⟨hz, (kMb_ok hP.1 h0 hz).2.2⟩
      have l15 : (kWs 15).length = 4 := rfl
      have l12 : (kWs 12).length = 4 := rfl
      have hlt1 := jVb_lt m1.1
      have hw1 := kWv_eq (T := T) hlt1.1
      have hdm := kMb_le (W := kWs 18) hP.1 h0
      generalize kMb T lo (kWs 18) = dv at *
      generalize kMb T lo (kWs 15) = nm at *
      generalize kMb T lo (kWs 12) = ty at *
      have hsy := (kLo_sy (dv := dv) hl (by omega) (by omega) (show nm - 1 < m by omega) hn.1 hdm).2
      have hok := hrec.1 _ _ _ _ _ hsy.1.1 m2.1 hr
      obtain ⟨o1, o2, o3, o4, o5, o6, o7, o8, o9⟩ := hok
      obtain ⟨hl1, hr1, hx1⟩ := kLo_fm hsy.1 o1 o2
      have e4 := hr1 4 (by omega)
      have hss := kLo_ss (i := q.2.1 4 s) (x := x) hl1 (by rw [hr1 0 (by omega), hsy.2.2 0 (by omega) (by omega)]; omega) (by rw [e4, hsy.2.1]; omega) o3
      have hfd := kLo_fd (x := x) (dv := dv) (i := q.2.1 4 s) hss.1
      have rows : ∀ r, r = 0 ∨ r = 7 → (kFd T s (q.2.1 4 s) x dv (kSs s (q.2.1 4 s) x q1)).2.1 r s = q.2.1 r s := by
        intro r hr
        rw [kFd_Q (by omega), hss.2 r (by omega), hr1 r (by omega), hsy.2.2 r (by omega) (by omega)]
      have row4 : (kFd T s (q.2.1 4 s) x dv (kSs s (q.2.1 4 s) x q1)).2.1 4 s = q.2.1 4 s + 1 := by
        rw [kFd_Q (by omega), hss.2 4 (by omega), e4, hsy.2.1]
      have ih := ih e1 _ _ _ hc hfd (by rw [rows 0 (by omega)]; exact h8) (by rw [row4, rows 7 (by omega)]; omega) h
      obtain ⟨i1, i2, i3, i4, i5, i6, i7, i8⟩ := ih
      have c : ∀ j, (kSd s (q.2.1 4 s) dv (kSn T s (q.2.1 4 s) (nm - 1) (kAk s q))).1 j = if j = 6 then q.1 6 + 1 + T 2 (nm - 1) else if j = 2 then q.1 2 + 1 else q.1 j := fun j => rfl
      have cf : ∀ j, (kFd T s (q.2.1 4 s) x dv (kSs s (q.2.1 4 s) x q1)).1 j = if j = 4 then q1.1 4 + 1 else if j = 5 ∧ dv ≠ 0 then q1.1 5 + 1 else if j = 7 ∧ dv ≠ 0 then q1.1 7 + 2 * kWv T (dv - 1) else q1.1 j := fun j => kFd_1
      have c1 := o2.1 1 (by omega)
      rw [c, if_neg (by omega), if_neg (by omega)] at c1
      rw [c, if_neg (by omega), if_pos rfl] at o4
      have o7' : 4 * q1.1 3 + 2 ≤ 4 * (kSd s (q.2.1 4 s) dv (kSn T s (q.2.1 4 s) (nm - 1) (kAk s q))).1 3 + kWv T (ty - 1) := by
        split at o7 <;> omega
      rw [c, if_neg (by omega), if_neg (by omega)] at o5 o7'
      rw [c, c, if_pos rfl, if_neg (by omega), if_neg (by omega)] at o6
      rw [c, c, if_neg (by omega), if_neg (by omega), if_neg (by omega), if_neg (by omega)] at o8 o9
      rw [cf, if_neg (by omega), if_neg (by omega), if_neg (by omega)] at i2 i3 i4 i6
      rw [cf 6, cf 7, if_neg (by omega), if_neg (by omega), if_neg (by omega), if_neg (by omega), if_neg (by omega)] at i5
      rw [cf 0, cf 4, if_neg (by omega), if_neg (by omega), if_neg (by omega), if_pos rfl] at i7
      rw [cf 4, cf 5, if_pos rfl, if_neg (by omega)] at i8
      rcases hd with ⟨hd, _⟩ | ⟨hd, hg⟩
      · rw [if_neg (fun z => z.2 hd)] at i5 i8
        refine ⟨i1, by omega, by omega, by omega, by omega, by omega, by omega, ?_⟩
        rw [if_neg (by omega)] at i8
        omega
      · rw [if_pos ⟨rfl, hd⟩] at i5 i8
        exact ⟨i1, by omega, by omega, by omega, by omega, by omega, by omega, by omega⟩
end
