/-! PURE: a record's fields have different names, and each that has its schema is done -/
def kDs (T : Nat → Nat → Nat) (q : kP) (s : Nat) : Prop := q.2.1 0 s = 11 → ∀ i j, i < j → j < q.2.1 4 s → jSm T (q.2.2 2 s i - 1) (q.2.2 2 s j - 1) = false
def kDo (q : kP) (s : Nat) : Prop := q.2.1 0 s = 11 → ∀ i, i < q.2.1 4 s → q.2.2 1 s i ≠ 0 → ∃ k, k < q.1 4 ∧ q.2.1 15 k = q.2.2 0 s i
def kDm (T : Nat → Nat → Nat) (q : kP) : Prop := ∀ s, 6 ≤ s → s < q.1 1 → kDs T q s ∧ kDo q s
/-- .. and no default has its place yet -/
def kDn (T : Nat → Nat → Nat) (q : kP) : Prop := (∀ j, j < q.1 3 → q.2.1 32 j = 0) ∧ kDm T q
section
variable {T : Nat → Nat → Nat} {N : Nat → Int} {m : Nat}
theorem kDm_op {q q' : kP} (h1 : q'.1 1 = q.1 1) (h4 : q'.1 4 = q.1 4) (h15 : ∀ k, q'.2.1 15 k = q.2.1 15 k) (h0 : ∀ t, q'.2.1 0 t = q.2.1 0 t) (h : ∀ t, q.2.1 0 t = 11 → q'.2.1 4 t = q.2.1 4 t ∧ ∀ r i, r ≤ 2 → q'.2.2 r t i = q.2.2 r t i) (hd : kDm T q) : kDm T q' := by
  intro t h6 ht
  have hdt := hd t h6 (by omega)
  refine ⟨fun h11 a b hab hb => ?_, fun h11 i hi hx => ?_⟩
  · rw [h0] at h11
    obtain ⟨h4, hX⟩ := h t h11
    rw [h4] at hb
    rw [hX 2 _ (by omega), hX 2 _ (by omega)]
    exact hdt.1 h11 a b hab hb
  · rw [h0] at h11
    obtain ⟨h5, hX⟩ := h t h11
    rw [h5] at hi
    rw [hX 1 _ (by omega)] at hx
    obtain ⟨k, hk, e⟩ := hdt.2 h11 i hi hx
    exact ⟨k, by omega, by rw [h15, hX 0 _ (by omega)]; exact e⟩
theorem kDn_op {q q' : kP} (h1 : q'.1 1 = q.1 1) (h3 : q'.1 3 = q.1 3) (h4 : q'.1 4 = q.1 4) (h15 : ∀ r k, r = 15 ∨ r = 32 → q'.2.1 r k = q.2.1 r k) (h0 : ∀ t, q'.2.1 0 t = q.2.1 0 t) (h : ∀ t, q.2.1 0 t = 11 → q'.2.1 4 t = q.2.1 4 t ∧ ∀ r i, r ≤ 2 → q'.2.2 r t i = q.2.2 r t i) (hd : kDn T q) : kDn T q' :=
  ⟨fun j hj => by rw [h15 32 j (by omega)]; exact hd.1 j (by omega), kDm_op h1 h4 (fun k => h15 15 k (by omega)) h0 h hd.2⟩
theorem kDn_0 : kDn T kP0 := ⟨fun j hj => rfl, fun t h6 ht => by
  have e : kP0.1 1 = 6 := rfl
  omega⟩
theorem kDn_sh {q : kP} {k : Nat} (hd : kDn T q) : kDn T (kSh k q) := by
  have r15 : ∀ r j, r = 15 ∨ r = 32 → (kSh k q).2.1 r j = q.2.1 r j := fun r j hr => by
    rw [kSh_Q]
    split
    · rw [if_neg (by omega), if_neg (by omega), if_neg (by omega)]
    · rfl
  refine ⟨fun j hj => by rw [r15 32 j (by omega)]; exact hd.1 j hj, ?_⟩
  intro t h6 ht
  rw [kSh_1, if_pos rfl] at ht
  have c4 : (kSh k q).1 4 = q.1 4 := rfl
  have r15 : ∀ j, (kSh k q).2.1 15 j = q.2.1 15 j := fun j => r15 15 j (by omega)
  by_cases e : t = q.1 1
  · have r4 : (kSh k q).2.1 4 t = 0 := by rw [kSh_Q, if_pos e, if_neg (by omega), if_pos (by omega)]
    refine ⟨fun h11 a b hab hb => ?_, fun h11 j hj hx => ?_⟩
    · rw [r4] at hb; omega
    · rw [r4] at hj; omega
  · have r : ∀ r, (kSh k q).2.1 r t = q.2.1 r t := fun r => by rw [kSh_Q, if_neg e]
    have hdt := hd.2 t h6 (by omega)
    refine ⟨fun h11 a b hab hb => ?_, fun h11 j hj hx => ?_⟩
    · rw [r] at h11 hb
      exact hdt.1 h11 a b hab hb
    · rw [r] at h11 hj
      obtain ⟨k', hk, ek⟩ := hdt.2 h11 j hj hx
      exact ⟨k', hk, by rw [r15]; exact ek⟩
theorem kDn_ap {q : kP} {s n : Nat} (hd : kDn T q) : kDn T (kAp s n q) := by
  have e : ∀ r t, r = 0 ∨ r = 4 ∨ r = 15 → (kAp s n q).2.1 r t = q.2.1 r t := fun r t hr => by
    rw [kAp_Q, if_neg (by omega), if_neg (by omega), if_neg (by omega), if_neg (by omega), if_neg (by omega)]
  refine ⟨fun j hj => ?_, kDm_op (q := q) rfl rfl (fun k => e 15 k (by omega)) (fun t => e 0 t (by omega)) (fun t _ => ⟨e 4 t (by omega), fun _ _ _ => rfl⟩) hd.2⟩
  rw [kAp_1, if_pos rfl] at hj
  rw [kAp_Q, if_neg (by omega), if_neg (by omega)]
  by_cases a : q.1 3 ≤ j
  · rw [if_pos ⟨by omega, a, hj⟩]
  · rw [if_neg (by omega), if_neg (by omega), if_neg (by omega)]
    exact hd.1 j (by omega)
theorem kDn_ak {q : kP} {s : Nat} (h : q.2.1 0 s ≠ 11) (hd : kDn T q) : kDn T (kAk s q) :=
  kDn_op (q := q) rfl rfl rfl (fun r k hr => kAk_o (by omega)) (fun t => kAk_r (by omega) (by omega)) (fun t h11 => by
    have ht : t ≠ s := fun e => h (by rw [← e]; exact h11)
    exact ⟨kAk_r (by omega) (.inl ht), fun r i _ => kAk_Xo (.inl ht)⟩) hd
theorem kDn_ss {q : kP} {s i x : Nat} (h : q.2.1 0 s ≠ 11) (hd : kDn T q) : kDn T (kSs s i x q) :=
  kDn_op (q := q) rfl rfl rfl (fun r k hr => by rw [kSs_Q, if_neg (by omega), if_neg (by omega)]) (fun t => by rw [kSs_Q, if_neg (by omega), if_neg (by omega)]) (fun t h11 => by
    have ht : t ≠ s := fun e => h (by rw [← e]; exact h11)
    exact ⟨by rw [kSs_Q, if_neg (by omega), if_neg (by omega)], fun r i _ => by rw [kSs_X, if_neg (by omega)]⟩) hd
theorem kDn_si {q : kP} {s x : Nat} (h : q.2.1 0 s ≠ 11) (hd : kDn T q) : kDn T (kSi s x q) :=
  kDn_op (q := q) rfl rfl rfl (fun r k hr => by rw [kSi_Q, if_neg (by omega), if_neg (by omega)]) (fun t => by rw [kSi_Q, if_neg (by omega), if_neg (by omega)]) (fun t h11 => by
    have ht : t ≠ s := fun e => h (by rw [← e]; exact h11)
    exact ⟨by rw [kSi_Q, if_neg (by omega), if_neg (by omega)], fun r i _ => by rw [kSi_X, if_neg (by omega)]⟩) hd
theorem kDn_q {q : kP} {s v : Nat} (hd : kDn T q) : kDn T (kQ q 8 s v) :=
  kDn_op (q := q) rfl rfl rfl (fun r k hr => by rw [kQ_Q, if_neg (by omega)]) (fun t => by rw [kQ_Q, if_neg (by omega)]) (fun t _ => ⟨by rw [kQ_Q, if_neg (by omega)], fun _ _ _ => rfl⟩) hd
theorem kDn_c0 {q : kP} {v : Nat} (hd : kDn T q) : kDn T (kC q 0 v) := ⟨hd.1, fun t h6 ht => hd.2 t h6 ht⟩
theorem kDn_nn {q : kP} {s x : Nat} (hd : kDn T q) : kDn T (kNn T s x q) := by
  have e : ∀ r t, r = 0 ∨ r = 4 ∨ r = 15 ∨ r = 32 → (kNn T s x q).2.1 r t = q.2.1 r t := fun r t hr => by
    unfold kNn
    rw [kQ_Q, if_neg (by omega), kQ_Q, if_neg (by omega), kPn_Q, if_neg (by omega), if_neg (by omega)]
  exact kDn_op (q := q) rfl rfl rfl (fun r k hr => e r k (by omega)) (fun t => e 0 t (by omega)) (fun t _ => ⟨e 4 t (by omega), fun _ _ _ => rfl⟩) hd
theorem kSn_r {q : kP} {s i x r j : Nat} (h : r = 0 ∨ r = 4 ∨ r = 15 ∨ r = 32) : (kSn T s i x q).2.1 r j = q.2.1 r j := by rw [kSn_Q, if_neg (by omega), if_neg (by omega), kPn_Q, if_neg (by omega), if_neg (by omega)]
theorem kDn_sn {q : kP} {s i x : Nat} (h : q.2.1 0 s ≠ 11) (hd : kDn T q) : kDn T (kSn T s i x q) :=
  kDn_op (q := q) rfl rfl rfl (fun r k hr => kSn_r (by omega)) (fun t => kSn_r (by omega)) (fun t h11 => by
    have ht : t ≠ s := fun e => h (by rw [← e]; exact h11)
    exact ⟨kSn_r (by omega), fun r i _ => by rw [kSn_X, if_neg (by omega), if_neg (by omega)]⟩) hd
/-- a field gets its schema, and is done -/
theorem kDn_fs {q : kP} {s i x dv : Nat} (hd : kDn T q) : kDn T (kFd T s i x dv (kSs s i x q)) := by
  refine ⟨fun j hj => ?_, fun t h6 ht => ?_⟩
  · have c3 : (kFd T s i x dv (kSs s i x q)).1 3 = q.1 3 := by rw [kFd_1, if_neg (by omega), if_neg (by omega), if_neg (by omega)]; rfl
    rw [kFd_Q (by omega), kSs_Q, if_neg (by omega), if_neg (by omega)]
    exact hd.1 j (by omega)
  have c1 : (kFd T s i x dv (kSs s i x q)).1 1 = q.1 1 := by rw [kFd_1, if_neg (by omega), if_neg (by omega), if_neg (by omega)]; rfl
  have c4 : (kFd T s i x dv (kSs s i x q)).1 4 = q.1 4 + 1 := by rw [kFd_1, if_pos rfl]; rfl
  have r0 : ∀ r, r = 0 ∨ r = 4 → (kFd T s i x dv (kSs s i x q)).2.1 r t = q.2.1 r t := fun r hr => by rw [kFd_Q (by omega), kSs_Q, if_neg (by omega), if_neg (by omega)]
  have r15 : ∀ k, k < q.1 4 → (kFd T s i x dv (kSs s i x q)).2.1 15 k = q.2.1 15 k := fun k hk => by
    rw [kFd_o (q := kSs s i x q) (fun _ => hk) (fun h => by omega), kSs_Q, if_neg (by omega), if_neg (by omega)]
  have n15 : (kFd T s i x dv (kSs s i x q)).2.1 15 (q.1 4) = q.2.2 0 s i := by
    have e0 : (kSs s i x q).2.2 0 s i = q.2.2 0 s i := by rw [kSs_X, if_neg (by omega)]
    rw [← e0]
    unfold kFd
    by_cases hz : dv = 0
    · simp [hz, kC_Q, kQ_Q, kSs_1]
    · simp [hz, kC_Q, kQ_Q, kSs_1]
  have hdt := hd.2 t h6 (by omega)
  refine ⟨fun h11 a b hab hb => ?_, fun h11 j hj hx => ?_⟩
  · rw [r0 0 (by omega)] at h11
    rw [r0 4 (by omega)] at hb
    rw [kFd_X, kSs_X, if_neg (by omega), kSs_X, if_neg (by omega)]
    exact hdt.1 h11 a b hab hb
  · rw [r0 0 (by omega)] at h11
    rw [r0 4 (by omega)] at hj
    have x0 : (kFd T s i x dv (kSs s i x q)).2.2 0 t j = q.2.2 0 t j := by rw [kFd_X, kSs_X, if_neg (by omega)]
    rw [x0]
    by_cases e : t = s ∧ j = i
    · obtain ⟨rfl, rfl⟩ := e
      exact ⟨q.1 4, by omega, n15⟩
    · rw [kFd_X, kSs_X, if_neg (fun h => e h.2)] at hx
      obtain ⟨k, hk, ek⟩ := hdt.2 h11 j hj hx
      exact ⟨k, by omega, by rw [r15 k hk]; exact ek⟩
theorem kDn_f {q : kP} {s x dv : Nat} (h11 : q.2.1 0 s = 11) (hp : kPt T q s (q.2.1 4 s) x = 0) (hd : kDn T q) : kDn T (kSd s (q.2.1 4 s) dv (kSn T s (q.2.1 4 s) x (kAk s q))) := by
  refine ⟨fun j hj => by rw [kSd_Q, if_neg (by omega), kSn_r (by omega), kAk_o (by omega)]; exact hd.1 j hj, fun t h6 ht => ?_⟩
  have r0 : (kSd s (q.2.1 4 s) dv (kSn T s (q.2.1 4 s) x (kAk s q))).2.1 0 t = q.2.1 0 t := by rw [kSd_Q, if_neg (by omega), kSn_r (by omega), kAk_r (by omega) (by omega)]
  have r15 : ∀ k, (kSd s (q.2.1 4 s) dv (kSn T s (q.2.1 4 s) x (kAk s q))).2.1 15 k = q.2.1 15 k := fun k => by rw [kSd_Q, if_neg (by omega), kSn_r (by omega), kAk_o (by omega)]
  have c4 : (kSd s (q.2.1 4 s) dv (kSn T s (q.2.1 4 s) x (kAk s q))).1 4 = q.1 4 := rfl
  have ht : t < q.1 1 := ht
  have hdt := hd.2 t h6 ht
  by_cases e : t = s
  · subst e
    have r4 : (kSd t (q.2.1 4 t) dv (kSn T t (q.2.1 4 t) x (kAk t q))).2.1 4 t = q.2.1 4 t + 1 := by rw [kSd_Q, if_neg (by omega), kSn_r (by omega), kAk_4]
    have xa : ∀ r j, r ≤ 2 → j < q.2.1 4 t → (kSd t (q.2.1 4 t) dv (kSn T t (q.2.1 4 t) x (kAk t q))).2.2 r t j = q.2.2 r t j := fun r j hr hj => by
      rw [kSd_X, if_neg (by omega), kSn_X, if_neg (by omega), if_neg (by omega), kAk_Xo (.inr (by omega))]
    refine ⟨fun k11 a b hab hb => ?_, fun k11 j hj hx => ?_⟩
    · rw [r4] at hb
      by_cases eb : b = q.2.1 4 t
      · have xb : (kSd t (q.2.1 4 t) dv (kSn T t (q.2.1 4 t) x (kAk t q))).2.2 2 t b = x + 1 := by
          rw [kSd_X, if_neg (by omega), kSn_X, if_neg (by omega), if_pos ⟨rfl, rfl, eb⟩]
        rw [xa 2 a (by omega) (by omega), xb, Nat.add_sub_cancel]
        exact (kFr_0 _ _).mp hp a (Nat.zero_le _) (by omega)
      · rw [xa 2 a (by omega) (by omega), xa 2 b (by omega) (by omega)]
        exact hdt.1 h11 a b hab (by omega)
    · rw [r4] at hj
      by_cases ej : j = q.2.1 4 t
      · have xz : (kSd t (q.2.1 4 t) dv (kSn T t (q.2.1 4 t) x (kAk t q))).2.2 1 t j = 0 := by
          rw [ej, kSd_X, if_neg (by omega), kSn_X, if_neg (by omega), if_neg (by omega), kAk_Xz (by omega)]
        exact absurd xz hx
      · rw [xa 1 j (by omega) (by omega)] at hx
        rw [xa 0 j (by omega) (by omega), c4]
        obtain ⟨k, hk, ek⟩ := hdt.2 h11 j (by omega) hx
        exact ⟨k, hk, by rw [r15]; exact ek⟩
  · have r4 : (kSd s (q.2.1 4 s) dv (kSn T s (q.2.1 4 s) x (kAk s q))).2.1 4 t = q.2.1 4 t := by rw [kSd_Q, if_neg (by omega), kSn_r (by omega), kAk_r (by omega) (.inl e)]
    have xa : ∀ r j, r ≤ 2 → (kSd s (q.2.1 4 s) dv (kSn T s (q.2.1 4 s) x (kAk s q))).2.2 r t j = q.2.2 r t j := fun r j hr => by
      rw [kSd_X, if_neg (by omega), kSn_X, if_neg (by omega), if_neg (by omega), kAk_Xo (.inl e)]
    refine ⟨fun k11 a b hab hb => ?_, fun k11 j hj hx => ?_⟩
    · rw [r4] at hb
      rw [r0] at k11
      rw [xa 2 _ (by omega), xa 2 _ (by omega)]
      exact hdt.1 k11 a b hab hb
    · rw [r4] at hj
      rw [r0] at k11
      rw [xa 1 _ (by omega)] at hx
      rw [xa 0 _ (by omega), c4]
      obtain ⟨k, hk, ek⟩ := hdt.2 k11 j hj hx
      exact ⟨k, hk, by rw [r15]; exact ek⟩
def kRd (T : Nat → Nat → Nat) (N : Nat → Int) (m : Nat) (rec : kR) : Prop := ∀ v br q q' x, kIv T m q → jVb T N m v → kDn T q → rec v br q = .ok (q', x) → kDn T q'
theorem kUl_d {rec : kR} (hrec : kRe T N m rec) (hrw : kRd T N m rec) {q0 : kP} {s e : Nat} : ∀ k lo cur q q', jTl T (jVe T N m) k lo e cur → kLo T m q0 s q → q.2.1 0 s = 8 → q.2.1 4 s + k ≤ q.2.1 7 s → kDn T q → kUl T rec s k cur q = .ok q' → kDn T q' := by
  intro k
  induction k with
  | zero =>
    intro lo cur q q' _ _ _ _ hw h
    cases h
    exact hw
  | succ k ih =>
    intro lo cur q q' hc hl h8 h7 hw h
    obtain ⟨hcur, e1, hP, hc⟩ := hc
    subst hcur
    unfold kUl at h
    rw [Nat.add_sub_cancel] at h
    split at h
    · cases h
    · rename_i q1 x hr
      have hok := hrec.1 _ _ _ _ _ hl.1 hP.1 hr
      have hw1 := hrw _ _ _ _ _ hl.1 hP.1 hw hr
      obtain ⟨o1, o2, o3, _⟩ := hok
      obtain ⟨hl1, hr1, hx1⟩ := kLo_fm hl o1 o2
      split at h
      · have e4 := hr1 4 (by omega)
        have hun := kLo_un (x := x) hl1 (by rw [hr1 0 (by omega)]; exact h8) (by rw [e4, hr1 7 (by omega)]; omega) o3
        exact ih e1 _ _ _ hc hun.1 (by rw [hun.2.2 0 (by omega) (by omega), hr1 0 (by omega)]; exact h8) (by rw [hun.2.1, hun.2.2 7 (by omega) (by omega), e4, hr1 7 (by omega)]; omega) (kDn_ss (by rw [kAk_r (by omega) (by omega), hr1 0 (by omega), h8]; omega) (kDn_ak (by rw [hr1 0 (by omega), h8]; omega) hw1)) h
      · cases h
theorem kYl_d {s : Nat} : ∀ k cur q q', q.2.1 0 s ≠ 11 → kDn T q → kYl T s k cur q = .ok q' → kDn T q' := by
  intro k
  induction k with
  | zero => intro cur q q' _ hw h; cases h; exact hw
  | succ k ih =>
    intro cur q q' h0 hw h
    unfold kYl at h
    have e : (kAk s q).2.1 0 s = q.2.1 0 s := kAk_r (by omega) (by omega)
    split at h
    · exact ih _ _ _ (by rw [kSn_r (by omega), e]; exact h0) (kDn_sn (by rw [e]; exact h0) (kDn_ak h0 hw)) h
    · cases h
theorem kFl_d {rec : kR} (hrec : kRe T N m rec) (hrw : kRd T N m rec) {q0 : kP} {s e : Nat} : ∀ k lo cur q q', jTl T (jVe T N m) k lo e cur → kLo T m q0 s q → q.2.1 0 s = 11 → q.2.1 4 s + k ≤ q.2.1 7 s → kDn T q → kFl T rec s k cur q = .ok q' → kDn T q' := by
  intro k
  induction k with
  | zero =>
    intro lo cur q q' _ _ _ _ hw h
    cases h
    exact hw
  | succ k ih =>
    intro lo cur q q' hc hl h8 h7 hw h
    obtain ⟨hcur, e1, hP, hc⟩ := hc
    subst hcur
    unfold kFl at h
    rw [Nat.add_sub_cancel] at h
    split at h
    case isFalse => cases h
    rename_i h0
    split at h
    case isFalse => cases h
    rename_i hnm
    split at h
    case isFalse => cases h
    rename_i hn
    split at h
    case isFalse => cases h
    rename_i hty
    split at h
    · cases h
    · rename_i q1 x hr
      have m1 := kMb_ok hP.1 h0 hnm.1
      have m2 := kMb_ok hP.1 h0 hty
      have hlt1 := jVb_lt m1.1
      have hdm := kMb_le (W := kWs 18) hP.1 h0
      have hdv : kMb T lo (kWs 18) ≠ 0 → jVb T N m (kMb T lo (kWs 18) - 1) := fun h => (kMb_ok hP.1 h0 h).1
      generalize kMb T lo (kWs 18) = dv at *
      generalize kMb T lo (kWs 15) = nm at *
      generalize kMb T lo (kWs 12) = ty at *
      have hsy := (kLo_sy (dv := dv) hl (by omega) (by omega) (show nm - 1 < m by omega) hn.1 hdm).2
      have hok := hrec.1 _ _ _ _ _ hsy.1.1 m2.1 hr
      have hwd : kDn T (kSd s (q.2.1 4 s) dv (kSn T s (q.2.1 4 s) (nm - 1) (kAk s q))) := kDn_f h8 hn.2 hw
      have hw1 := hrw _ _ _ _ _ hsy.1.1 m2.1 hwd hr
      obtain ⟨o1, o2, o3, _⟩ := hok
      obtain ⟨hl1, hr1, hx1⟩ := kLo_fm hsy.1 o1 o2
      have e4 := hr1 4 (by omega)
      have ht1 := hl1.2.2.1
      have hss := kLo_ss (i := q.2.1 4 s) (x := x) hl1 (by rw [hr1 0 (by omega), hsy.2.2 0 (by omega) (by omega)]; omega) (by rw [e4, hsy.2.1]; omega) o3
      have hfd := kLo_fd (x := x) (dv := dv) (i := q.2.1 4 s) hss.1
      have rows : ∀ r, r = 0 ∨ r = 7 → (kFd T s (q.2.1 4 s) x dv (kSs s (q.2.1 4 s) x q1)).2.1 r s = q.2.1 r s := by
        intro r hr
        rw [kFd_Q (by omega), hss.2 r (by omega), hr1 r (by omega), hsy.2.2 r (by omega) (by omega)]
      have row4 : (kFd T s (q.2.1 4 s) x dv (kSs s (q.2.1 4 s) x q1)).2.1 4 s = q.2.1 4 s + 1 := by
        rw [kFd_Q (by omega), hss.2 4 (by omega), e4, hsy.2.1]
      have hwf : kDn T (kFd T s (q.2.1 4 s) x dv (kSs s (q.2.1 4 s) x q1)) := kDn_fs hw1
      exact ih e1 _ _ _ hc hfd (by rw [rows 0 (by omega)]; exact h8) (by rw [row4, rows 7 (by omega)]; omega) hwf h
theorem kBd_d {rec : kR} (hrec : kRe T N m rec) (hrw : kRd T N m rec) {q q' : kP} {v x : Nat} {br : Bool} (h : kIv T m q) (hn : q.1 1 + 1 ≤ 6 + q.1 0) (hv : jVb T N m v) (hw : kDn T q) (he : kBd T N rec v br q = .ok (q', x)) : kDn T q' := by
  have known : ∀ w, kKn T w q = .ok (q', x) → kDn T q' := by
    intro w hk
    unfold kKn at hk
    split at hk
    · cases hk; exact hw
    · split at hk
      · cases hk; exact hw
      · cases hk
  unfold kBd at he
  split at he
  · exact known _ he
  · split at he
    · rename_i h1
      split at he
      · cases he
      · unfold kUn at he
        split at he
        case isFalse => cases he
        rename_i hL
        split at he
        · cases he
        · rename_i q2 hy
          cases he
          have hu := kLo_u0 (n := T 2 v) h hn (by omega)
          have s4 : (kSh 8 q).2.1 4 (q.1 1) = 0 := by rw [kSh_Q, if_pos rfl, if_neg (by omega), if_pos (by omega)]
          exact kUl_d hrec hrw _ _ _ _ _ (jVb_l hv h1) hu.1 hu.2.1 (by rw [hu.2.2.1, hu.2.2.2]; omega) (kDn_ap (kDn_sh hw)) hy
    · split at he
      · rename_i h0
        unfold kOb at he
        split at he
        case isFalse => cases he
        rename_i ht
        split at he
        · rename_i h78
          have hk67 : kKt T (kMb T v (kWs 12) - 1) - 1 = 6 ∨ kKt T (kMb T v (kWs 12) - 1) - 1 = 7 := by omega
          generalize kKt T (kMb T v (kWs 12) - 1) - 1 = k at *
          unfold kCl at he
          split at he
          · cases he
          · rename_i hz
            split at he
            · cases he
            · rename_i q1 y hr
              cases he
              have m1 := kMb_ok hv h0 hz
              have har := kLo_ar (k := k) h hn hk67
              have hok := hrec.1 _ _ _ _ _ har.1.1 m1.1 hr
              have hw1 := hrw _ _ _ _ _ har.1.1 m1.1 (kDn_ak (by rw [kSh_Q, if_pos rfl, if_pos rfl]; omega) (kDn_sh hw)) hr
              obtain ⟨o1, o2, o3, _⟩ := hok
              obtain ⟨hl1, hr1, hx1⟩ := kLo_fm har.1 o1 o2
              exact kDn_si (by rw [hr1 0 (by omega), har.2.1]; omega) hw1
        · split at he
          · rename_i h9
            have hkt := kKt_1 (T := T) (v := kMb T v (kWs 12) - 1) (by omega)
            have hk9 : 9 ≤ kKt T (kMb T v (kWs 12) - 1) - 1 ∧ kKt T (kMb T v (kWs 12) - 1) - 1 ≤ 11 := by omega
            generalize kKt T (kMb T v (kWs 12) - 1) - 1 = k at *
            unfold kNa at he
            split at he
            case isFalse => cases he
            rename_i hnm
            split at he
            case isFalse => cases he
            rename_i hna
            have m1 := kMb_ok hv h0 hnm.1
            have hlt1 := jVb_lt m1.1
            have hl0 := kLo_nn (k := k) (x := kMb T v (kWs 15) - 1) h hn hk9 (by omega) hna.1
            have r0 := kNn_r (T := T) (k := k) (x := kMb T v (kWs 15) - 1) (q := q) (r := 0) (by omega)
            have r4 := kNn_r (T := T) (k := k) (x := kMb T v (kWs 15) - 1) (q := q) (r := 4) (by omega)
            rw [if_pos rfl] at r0
            rw [if_neg (by omega), if_neg (by omega)] at r4
            have hwn : kDn T (kNn T (q.1 1) (kMb T v (kWs 15) - 1) (kSh k q)) := kDn_nn (kDn_sh hw)
            generalize kNn T (q.1 1) (kMb T v (kWs 15) - 1) (kSh k q) = qn at *
            split at he
            · unfold kFx at he
              split at he
              · cases he
              · split at he
                · cases he
                  exact kDn_q hwn
                · cases he
            · split at he
              · rename_i hk
                unfold kEn at he
                split at he
                · cases he
                · split at he
                  · split at he
                    · cases he
                    · rename_i q2 hy
                      have hwy := kYl_d _ _ _ _ (by rw [kAp_Q, if_neg (by omega), if_neg (by omega), if_neg (by omega), if_neg (by omega), if_neg (by omega), r0]; omega) (kDn_ap hwn) hy
                      split at he
                      · cases he
                        exact hwy
                      · split at he
                        · cases he
                          exact kDn_q hwy
                        · cases he
                  · cases he
              · rename_i hk9' hk10
                unfold kRc at he
                split at he
                · cases he
                · rename_i hz
                  have m2 := kMb_ok hv h0 hz
                  split at he
                  · rename_i hL
                    split at he
                    · cases he
                    · rename_i q2 hy
                      cases he
                      have hap := kLo_ap (n := T 2 (kMb T v (kWs 19) - 1)) hl0 (by omega) r4 (by omega)
                      exact kFl_d hrec hrw _ _ _ _ _ (jVb_l m2.1 hL.1) hap.1 (by rw [hap.2.1 0 (by omega), r0]; omega) (by rw [hap.2.1 4 (by omega), hap.2.2, r4]; omega) (kDn_ap hwn) hy
                  · cases he
          · exact known _ he
      · cases he
theorem kSo_d : ∀ D, kRd T N m (kSo T N D) := by
  intro D
  induction D with
  | zero =>
    intro v br q q' x _ _ _ h
    unfold kSo at h
    split at h <;> cases h
  | succ D ih =>
    intro v br q q' x hi hv hw h
    unfold kSo at h
    split at h
    · rename_i hl
      obtain ⟨hIc, hn1, _⟩ := kIv_c0 hi hl
      exact kBd_d (kSo_ok D) ih hIc hn1 hv (kDn_c0 hw) h
    · cases h
end
